def mt_T_lowered : Mt := (⟨"TruthBench", "lowered", "(I)I"⟩, prog_1_method_21_code, 1, some .int, [])
def dl_T_lowered_b0 : List (Nat × Instr × Nat) := [(0, .iload_n 0, 1), (1, .bipush 65, 2), (3, .if_icmp .lt 16, 3), (6, .iload_n 0, 1), (7, .bipush 90, 2), (9, .if_icmp .gt 10, 3), (12, .iload_n 0, 1), (13, .bipush 32, 2), (15, .iadd, 1), (16, .goto 4, 3), (19, .iload_n 0, 1), (20, .ireturn, 1)]
set_option maxRecDepth 100000 in
theorem dk_T_lowered_b0 : ∀ q ∈ dl_T_lowered_b0, decode mt_T_lowered.cc q.1 = .ok (q.2.1, q.2.2) := by decide +kernel
theorem dd_T_lowered_0 : decode mt_T_lowered.cc 0 = .ok (.iload_n 0, 1) := dk_T_lowered_b0 (0, .iload_n 0, 1) (List.mem_of_getElem? (i := 0) rfl)
theorem dd_T_lowered_1 : decode mt_T_lowered.cc 1 = .ok (.bipush 65, 2) := dk_T_lowered_b0 (1, .bipush 65, 2) (List.mem_of_getElem? (i := 1) rfl)
theorem dd_T_lowered_3 : decode mt_T_lowered.cc 3 = .ok (.if_icmp .lt 16, 3) := dk_T_lowered_b0 (3, .if_icmp .lt 16, 3) (List.mem_of_getElem? (i := 2) rfl)
theorem dd_T_lowered_6 : decode mt_T_lowered.cc 6 = .ok (.iload_n 0, 1) := dk_T_lowered_b0 (6, .iload_n 0, 1) (List.mem_of_getElem? (i := 3) rfl)
theorem dd_T_lowered_7 : decode mt_T_lowered.cc 7 = .ok (.bipush 90, 2) := dk_T_lowered_b0 (7, .bipush 90, 2) (List.mem_of_getElem? (i := 4) rfl)
theorem dd_T_lowered_9 : decode mt_T_lowered.cc 9 = .ok (.if_icmp .gt 10, 3) := dk_T_lowered_b0 (9, .if_icmp .gt 10, 3) (List.mem_of_getElem? (i := 5) rfl)
theorem dd_T_lowered_12 : decode mt_T_lowered.cc 12 = .ok (.iload_n 0, 1) := dk_T_lowered_b0 (12, .iload_n 0, 1) (List.mem_of_getElem? (i := 6) rfl)
theorem dd_T_lowered_13 : decode mt_T_lowered.cc 13 = .ok (.bipush 32, 2) := dk_T_lowered_b0 (13, .bipush 32, 2) (List.mem_of_getElem? (i := 7) rfl)
theorem dd_T_lowered_15 : decode mt_T_lowered.cc 15 = .ok (.iadd, 1) := dk_T_lowered_b0 (15, .iadd, 1) (List.mem_of_getElem? (i := 8) rfl)
theorem dd_T_lowered_16 : decode mt_T_lowered.cc 16 = .ok (.goto 4, 3) := dk_T_lowered_b0 (16, .goto 4, 3) (List.mem_of_getElem? (i := 9) rfl)
theorem dd_T_lowered_19 : decode mt_T_lowered.cc 19 = .ok (.iload_n 0, 1) := dk_T_lowered_b0 (19, .iload_n 0, 1) (List.mem_of_getElem? (i := 10) rfl)
theorem dd_T_lowered_20 : decode mt_T_lowered.cc 20 = .ok (.ireturn, 1) := dk_T_lowered_b0 (20, .ireturn, 1) (List.mem_of_getElem? (i := 11) rfl)
theorem cw_T_lowered : gj_cw mt_T_lowered ∈ tw_all := mw_458
theorem pl_T_lowered : gj_plain mt_T_lowered.y := ⟨by decide +kernel, by decide +kernel⟩
theorem pn_T_lowered : plainName mt_T_lowered.y.cls = true := by decide +kernel
theorem np_T_lowered : gj_np mt_T_lowered.y = some 1 := by decide +kernel
def mt_T_raised : Mt := (⟨"TruthBench", "raised", "(I)I"⟩, prog_1_method_22_code, 1, some .int, [])
def dl_T_raised_b0 : List (Nat × Instr × Nat) := [(0, .iload_n 0, 1), (1, .bipush 97, 2), (3, .if_icmp .lt 16, 3), (6, .iload_n 0, 1), (7, .bipush 122, 2), (9, .if_icmp .gt 10, 3), (12, .iload_n 0, 1), (13, .bipush 32, 2), (15, .isub, 1), (16, .goto 4, 3), (19, .iload_n 0, 1), (20, .ireturn, 1)]
set_option maxRecDepth 100000 in
theorem dk_T_raised_b0 : ∀ q ∈ dl_T_raised_b0, decode mt_T_raised.cc q.1 = .ok (q.2.1, q.2.2) := by decide +kernel
theorem dd_T_raised_0 : decode mt_T_raised.cc 0 = .ok (.iload_n 0, 1) := dk_T_raised_b0 (0, .iload_n 0, 1) (List.mem_of_getElem? (i := 0) rfl)
theorem dd_T_raised_1 : decode mt_T_raised.cc 1 = .ok (.bipush 97, 2) := dk_T_raised_b0 (1, .bipush 97, 2) (List.mem_of_getElem? (i := 1) rfl)
theorem dd_T_raised_3 : decode mt_T_raised.cc 3 = .ok (.if_icmp .lt 16, 3) := dk_T_raised_b0 (3, .if_icmp .lt 16, 3) (List.mem_of_getElem? (i := 2) rfl)
theorem dd_T_raised_6 : decode mt_T_raised.cc 6 = .ok (.iload_n 0, 1) := dk_T_raised_b0 (6, .iload_n 0, 1) (List.mem_of_getElem? (i := 3) rfl)
theorem dd_T_raised_7 : decode mt_T_raised.cc 7 = .ok (.bipush 122, 2) := dk_T_raised_b0 (7, .bipush 122, 2) (List.mem_of_getElem? (i := 4) rfl)
theorem dd_T_raised_9 : decode mt_T_raised.cc 9 = .ok (.if_icmp .gt 10, 3) := dk_T_raised_b0 (9, .if_icmp .gt 10, 3) (List.mem_of_getElem? (i := 5) rfl)
theorem dd_T_raised_12 : decode mt_T_raised.cc 12 = .ok (.iload_n 0, 1) := dk_T_raised_b0 (12, .iload_n 0, 1) (List.mem_of_getElem? (i := 6) rfl)
theorem dd_T_raised_13 : decode mt_T_raised.cc 13 = .ok (.bipush 32, 2) := dk_T_raised_b0 (13, .bipush 32, 2) (List.mem_of_getElem? (i := 7) rfl)
theorem dd_T_raised_15 : decode mt_T_raised.cc 15 = .ok (.isub, 1) := dk_T_raised_b0 (15, .isub, 1) (List.mem_of_getElem? (i := 8) rfl)
theorem dd_T_raised_16 : decode mt_T_raised.cc 16 = .ok (.goto 4, 3) := dk_T_raised_b0 (16, .goto 4, 3) (List.mem_of_getElem? (i := 9) rfl)
theorem dd_T_raised_19 : decode mt_T_raised.cc 19 = .ok (.iload_n 0, 1) := dk_T_raised_b0 (19, .iload_n 0, 1) (List.mem_of_getElem? (i := 10) rfl)
theorem dd_T_raised_20 : decode mt_T_raised.cc 20 = .ok (.ireturn, 1) := dk_T_raised_b0 (20, .ireturn, 1) (List.mem_of_getElem? (i := 11) rfl)
theorem cw_T_raised : gj_cw mt_T_raised ∈ tw_all := mw_951
theorem pl_T_raised : gj_plain mt_T_raised.y := ⟨by decide +kernel, by decide +kernel⟩
theorem pn_T_raised : plainName mt_T_raised.y.cls = true := by decide +kernel
theorem np_T_raised : gj_np mt_T_raised.y = some 1 := by decide +kernel
def mt_T_isInt : Mt := (⟨"TruthBench", "isInt", "(J)Z"⟩, prog_1_method_18_code, 2, some .boolean, [])
def dl_T_isInt_b0 : List (Nat × Instr × Nat) := [(0, .lload_n 0, 1), (1, .ldc2_w 158, 3), (4, .lcmp, 1), (5, .ifCond .lt 15, 3), (8, .lload_n 0, 1), (9, .ldc2_w 160, 3), (12, .lcmp, 1), (13, .ifCond .gt 7, 3), (16, .iconst 1, 1), (17, .goto 4, 3), (20, .iconst 0, 1), (21, .ireturn, 1)]
set_option maxRecDepth 100000 in
theorem dk_T_isInt_b0 : ∀ q ∈ dl_T_isInt_b0, decode mt_T_isInt.cc q.1 = .ok (q.2.1, q.2.2) := by decide +kernel
theorem dd_T_isInt_0 : decode mt_T_isInt.cc 0 = .ok (.lload_n 0, 1) := dk_T_isInt_b0 (0, .lload_n 0, 1) (List.mem_of_getElem? (i := 0) rfl)
theorem dd_T_isInt_1 : decode mt_T_isInt.cc 1 = .ok (.ldc2_w 158, 3) := dk_T_isInt_b0 (1, .ldc2_w 158, 3) (List.mem_of_getElem? (i := 1) rfl)
theorem dd_T_isInt_4 : decode mt_T_isInt.cc 4 = .ok (.lcmp, 1) := dk_T_isInt_b0 (4, .lcmp, 1) (List.mem_of_getElem? (i := 2) rfl)
theorem dd_T_isInt_5 : decode mt_T_isInt.cc 5 = .ok (.ifCond .lt 15, 3) := dk_T_isInt_b0 (5, .ifCond .lt 15, 3) (List.mem_of_getElem? (i := 3) rfl)
theorem dd_T_isInt_8 : decode mt_T_isInt.cc 8 = .ok (.lload_n 0, 1) := dk_T_isInt_b0 (8, .lload_n 0, 1) (List.mem_of_getElem? (i := 4) rfl)
theorem dd_T_isInt_9 : decode mt_T_isInt.cc 9 = .ok (.ldc2_w 160, 3) := dk_T_isInt_b0 (9, .ldc2_w 160, 3) (List.mem_of_getElem? (i := 5) rfl)
theorem dd_T_isInt_12 : decode mt_T_isInt.cc 12 = .ok (.lcmp, 1) := dk_T_isInt_b0 (12, .lcmp, 1) (List.mem_of_getElem? (i := 6) rfl)
theorem dd_T_isInt_13 : decode mt_T_isInt.cc 13 = .ok (.ifCond .gt 7, 3) := dk_T_isInt_b0 (13, .ifCond .gt 7, 3) (List.mem_of_getElem? (i := 7) rfl)
theorem dd_T_isInt_16 : decode mt_T_isInt.cc 16 = .ok (.iconst 1, 1) := dk_T_isInt_b0 (16, .iconst 1, 1) (List.mem_of_getElem? (i := 8) rfl)
theorem dd_T_isInt_17 : decode mt_T_isInt.cc 17 = .ok (.goto 4, 3) := dk_T_isInt_b0 (17, .goto 4, 3) (List.mem_of_getElem? (i := 9) rfl)
theorem dd_T_isInt_20 : decode mt_T_isInt.cc 20 = .ok (.iconst 0, 1) := dk_T_isInt_b0 (20, .iconst 0, 1) (List.mem_of_getElem? (i := 10) rfl)
theorem dd_T_isInt_21 : decode mt_T_isInt.cc 21 = .ok (.ireturn, 1) := dk_T_isInt_b0 (21, .ireturn, 1) (List.mem_of_getElem? (i := 11) rfl)
theorem cw_T_isInt : gj_cw mt_T_isInt ∈ tw_all := mw_363
theorem pl_T_isInt : gj_plain mt_T_isInt.y := ⟨by decide +kernel, by decide +kernel⟩
theorem pn_T_isInt : plainName mt_T_isInt.y.cls = true := by decide +kernel
theorem np_T_isInt : gj_np mt_T_isInt.y = some 1 := by decide +kernel
def mt_T_isCharacter : Mt := (⟨"TruthBench", "isCharacter", "(B)Z"⟩, prog_1_method_19_code, 1, some .boolean, [])
def dl_T_isCharacter_b0 : List (Nat × Instr × Nat) := [(0, .iload_n 0, 1), (1, .bipush 32, 2), (3, .if_icmp .lt 13, 3), (6, .iload_n 0, 1), (7, .bipush 126, 2), (9, .if_icmp .gt 7, 3), (12, .iconst 1, 1), (13, .goto 4, 3), (16, .iconst 0, 1), (17, .ireturn, 1)]
set_option maxRecDepth 100000 in
theorem dk_T_isCharacter_b0 : ∀ q ∈ dl_T_isCharacter_b0, decode mt_T_isCharacter.cc q.1 = .ok (q.2.1, q.2.2) := by decide +kernel
theorem dd_T_isCharacter_0 : decode mt_T_isCharacter.cc 0 = .ok (.iload_n 0, 1) := dk_T_isCharacter_b0 (0, .iload_n 0, 1) (List.mem_of_getElem? (i := 0) rfl)
theorem dd_T_isCharacter_1 : decode mt_T_isCharacter.cc 1 = .ok (.bipush 32, 2) := dk_T_isCharacter_b0 (1, .bipush 32, 2) (List.mem_of_getElem? (i := 1) rfl)
theorem dd_T_isCharacter_3 : decode mt_T_isCharacter.cc 3 = .ok (.if_icmp .lt 13, 3) := dk_T_isCharacter_b0 (3, .if_icmp .lt 13, 3) (List.mem_of_getElem? (i := 2) rfl)
theorem dd_T_isCharacter_6 : decode mt_T_isCharacter.cc 6 = .ok (.iload_n 0, 1) := dk_T_isCharacter_b0 (6, .iload_n 0, 1) (List.mem_of_getElem? (i := 3) rfl)
theorem dd_T_isCharacter_7 : decode mt_T_isCharacter.cc 7 = .ok (.bipush 126, 2) := dk_T_isCharacter_b0 (7, .bipush 126, 2) (List.mem_of_getElem? (i := 4) rfl)
theorem dd_T_isCharacter_9 : decode mt_T_isCharacter.cc 9 = .ok (.if_icmp .gt 7, 3) := dk_T_isCharacter_b0 (9, .if_icmp .gt 7, 3) (List.mem_of_getElem? (i := 5) rfl)
theorem dd_T_isCharacter_12 : decode mt_T_isCharacter.cc 12 = .ok (.iconst 1, 1) := dk_T_isCharacter_b0 (12, .iconst 1, 1) (List.mem_of_getElem? (i := 6) rfl)
theorem dd_T_isCharacter_13 : decode mt_T_isCharacter.cc 13 = .ok (.goto 4, 3) := dk_T_isCharacter_b0 (13, .goto 4, 3) (List.mem_of_getElem? (i := 7) rfl)
theorem dd_T_isCharacter_16 : decode mt_T_isCharacter.cc 16 = .ok (.iconst 0, 1) := dk_T_isCharacter_b0 (16, .iconst 0, 1) (List.mem_of_getElem? (i := 8) rfl)
theorem dd_T_isCharacter_17 : decode mt_T_isCharacter.cc 17 = .ok (.ireturn, 1) := dk_T_isCharacter_b0 (17, .ireturn, 1) (List.mem_of_getElem? (i := 9) rfl)
theorem cw_T_isCharacter : gj_cw mt_T_isCharacter ∈ tw_all := mw_379
theorem pl_T_isCharacter : gj_plain mt_T_isCharacter.y := ⟨by decide +kernel, by decide +kernel⟩
theorem pn_T_isCharacter : plainName mt_T_isCharacter.y.cls = true := by decide +kernel
theorem np_T_isCharacter : gj_np mt_T_isCharacter.y = some 1 := by decide +kernel
def mt_L_putNumber : Mt := (⟨"TruthBench$Slots", "putNumber", "(IIJ)V"⟩, prog_9_method_6_code, 5, none, [])
def dl_L_putNumber_b0 : List (Nat × Instr × Nat) := [(0, .aload_n 0, 1), (1, .getfield 9, 3), (4, .iload_n 1, 1), (5, .iload_n 2, 1), (6, .iastore, 1), (7, .aload_n 0, 1), (8, .getfield 15, 3), (11, .iload_n 1, 1), (12, .lload_n 3, 1), (13, .lastore, 1), (14, .return_, 1)]
set_option maxRecDepth 100000 in
theorem dk_L_putNumber_b0 : ∀ q ∈ dl_L_putNumber_b0, decode mt_L_putNumber.cc q.1 = .ok (q.2.1, q.2.2) := by decide +kernel
theorem dd_L_putNumber_0 : decode mt_L_putNumber.cc 0 = .ok (.aload_n 0, 1) := dk_L_putNumber_b0 (0, .aload_n 0, 1) (List.mem_of_getElem? (i := 0) rfl)
theorem dd_L_putNumber_1 : decode mt_L_putNumber.cc 1 = .ok (.getfield 9, 3) := dk_L_putNumber_b0 (1, .getfield 9, 3) (List.mem_of_getElem? (i := 1) rfl)
theorem dd_L_putNumber_4 : decode mt_L_putNumber.cc 4 = .ok (.iload_n 1, 1) := dk_L_putNumber_b0 (4, .iload_n 1, 1) (List.mem_of_getElem? (i := 2) rfl)
theorem dd_L_putNumber_5 : decode mt_L_putNumber.cc 5 = .ok (.iload_n 2, 1) := dk_L_putNumber_b0 (5, .iload_n 2, 1) (List.mem_of_getElem? (i := 3) rfl)
theorem dd_L_putNumber_6 : decode mt_L_putNumber.cc 6 = .ok (.iastore, 1) := dk_L_putNumber_b0 (6, .iastore, 1) (List.mem_of_getElem? (i := 4) rfl)
theorem dd_L_putNumber_7 : decode mt_L_putNumber.cc 7 = .ok (.aload_n 0, 1) := dk_L_putNumber_b0 (7, .aload_n 0, 1) (List.mem_of_getElem? (i := 5) rfl)
theorem dd_L_putNumber_8 : decode mt_L_putNumber.cc 8 = .ok (.getfield 15, 3) := dk_L_putNumber_b0 (8, .getfield 15, 3) (List.mem_of_getElem? (i := 6) rfl)
theorem dd_L_putNumber_11 : decode mt_L_putNumber.cc 11 = .ok (.iload_n 1, 1) := dk_L_putNumber_b0 (11, .iload_n 1, 1) (List.mem_of_getElem? (i := 7) rfl)
theorem dd_L_putNumber_12 : decode mt_L_putNumber.cc 12 = .ok (.lload_n 3, 1) := dk_L_putNumber_b0 (12, .lload_n 3, 1) (List.mem_of_getElem? (i := 8) rfl)
theorem dd_L_putNumber_13 : decode mt_L_putNumber.cc 13 = .ok (.lastore, 1) := dk_L_putNumber_b0 (13, .lastore, 1) (List.mem_of_getElem? (i := 9) rfl)
theorem dd_L_putNumber_14 : decode mt_L_putNumber.cc 14 = .ok (.return_, 1) := dk_L_putNumber_b0 (14, .return_, 1) (List.mem_of_getElem? (i := 10) rfl)
theorem cw_L_putNumber : gj_cw mt_L_putNumber ∈ tw_all := mw_350
theorem pl_L_putNumber : gj_plain mt_L_putNumber.y := ⟨by decide +kernel, by decide +kernel⟩
theorem pn_L_putNumber : plainName mt_L_putNumber.y.cls = true := by decide +kernel
theorem np_L_putNumber : gj_np mt_L_putNumber.y = some 3 := by decide +kernel
def mt_L_putNull : Mt := (⟨"TruthBench$Slots", "putNull", "(I)V"⟩, prog_9_method_4_code, 2, none, [])
def dl_L_putNull_b0 : List (Nat × Instr × Nat) := [(0, .aload_n 0, 1), (1, .iload_n 1, 1), (2, .iconst 3, 1), (3, .lconst 0, 1), (4, .invokevirtual 27, 3), (7, .return_, 1)]
set_option maxRecDepth 100000 in
theorem dk_L_putNull_b0 : ∀ q ∈ dl_L_putNull_b0, decode mt_L_putNull.cc q.1 = .ok (q.2.1, q.2.2) := by decide +kernel
theorem dd_L_putNull_0 : decode mt_L_putNull.cc 0 = .ok (.aload_n 0, 1) := dk_L_putNull_b0 (0, .aload_n 0, 1) (List.mem_of_getElem? (i := 0) rfl)
theorem dd_L_putNull_1 : decode mt_L_putNull.cc 1 = .ok (.iload_n 1, 1) := dk_L_putNull_b0 (1, .iload_n 1, 1) (List.mem_of_getElem? (i := 1) rfl)
theorem dd_L_putNull_2 : decode mt_L_putNull.cc 2 = .ok (.iconst 3, 1) := dk_L_putNull_b0 (2, .iconst 3, 1) (List.mem_of_getElem? (i := 2) rfl)
theorem dd_L_putNull_3 : decode mt_L_putNull.cc 3 = .ok (.lconst 0, 1) := dk_L_putNull_b0 (3, .lconst 0, 1) (List.mem_of_getElem? (i := 3) rfl)
theorem dd_L_putNull_4 : decode mt_L_putNull.cc 4 = .ok (.invokevirtual 27, 3) := dk_L_putNull_b0 (4, .invokevirtual 27, 3) (List.mem_of_getElem? (i := 4) rfl)
theorem dd_L_putNull_7 : decode mt_L_putNull.cc 7 = .ok (.return_, 1) := dk_L_putNull_b0 (7, .return_, 1) (List.mem_of_getElem? (i := 5) rfl)
theorem cw_L_putNull : gj_cw mt_L_putNull ∈ tw_all := mw_346
theorem pl_L_putNull : gj_plain mt_L_putNull.y := ⟨by decide +kernel, by decide +kernel⟩
theorem pn_L_putNull : plainName mt_L_putNull.y.cls = true := by decide +kernel
theorem np_L_putNull : gj_np mt_L_putNull.y = some 1 := by decide +kernel
def mt_L_isNull : Mt := (⟨"TruthBench$Slots", "isNull", "(I)Z"⟩, prog_9_method_2_code, 2, some .boolean, [])
def dl_L_isNull_b0 : List (Nat × Instr × Nat) := [(0, .aload_n 0, 1), (1, .getfield 9, 3), (4, .iload_n 1, 1), (5, .iaload, 1), (6, .iconst 3, 1), (7, .if_icmp .ne 7, 3), (10, .iconst 1, 1), (11, .goto 4, 3), (14, .iconst 0, 1), (15, .ireturn, 1)]
set_option maxRecDepth 100000 in
theorem dk_L_isNull_b0 : ∀ q ∈ dl_L_isNull_b0, decode mt_L_isNull.cc q.1 = .ok (q.2.1, q.2.2) := by decide +kernel
theorem dd_L_isNull_0 : decode mt_L_isNull.cc 0 = .ok (.aload_n 0, 1) := dk_L_isNull_b0 (0, .aload_n 0, 1) (List.mem_of_getElem? (i := 0) rfl)
theorem dd_L_isNull_1 : decode mt_L_isNull.cc 1 = .ok (.getfield 9, 3) := dk_L_isNull_b0 (1, .getfield 9, 3) (List.mem_of_getElem? (i := 1) rfl)
theorem dd_L_isNull_4 : decode mt_L_isNull.cc 4 = .ok (.iload_n 1, 1) := dk_L_isNull_b0 (4, .iload_n 1, 1) (List.mem_of_getElem? (i := 2) rfl)
theorem dd_L_isNull_5 : decode mt_L_isNull.cc 5 = .ok (.iaload, 1) := dk_L_isNull_b0 (5, .iaload, 1) (List.mem_of_getElem? (i := 3) rfl)
theorem dd_L_isNull_6 : decode mt_L_isNull.cc 6 = .ok (.iconst 3, 1) := dk_L_isNull_b0 (6, .iconst 3, 1) (List.mem_of_getElem? (i := 4) rfl)
theorem dd_L_isNull_7 : decode mt_L_isNull.cc 7 = .ok (.if_icmp .ne 7, 3) := dk_L_isNull_b0 (7, .if_icmp .ne 7, 3) (List.mem_of_getElem? (i := 5) rfl)
theorem dd_L_isNull_10 : decode mt_L_isNull.cc 10 = .ok (.iconst 1, 1) := dk_L_isNull_b0 (10, .iconst 1, 1) (List.mem_of_getElem? (i := 6) rfl)
theorem dd_L_isNull_11 : decode mt_L_isNull.cc 11 = .ok (.goto 4, 3) := dk_L_isNull_b0 (11, .goto 4, 3) (List.mem_of_getElem? (i := 7) rfl)
theorem dd_L_isNull_14 : decode mt_L_isNull.cc 14 = .ok (.iconst 0, 1) := dk_L_isNull_b0 (14, .iconst 0, 1) (List.mem_of_getElem? (i := 8) rfl)
theorem dd_L_isNull_15 : decode mt_L_isNull.cc 15 = .ok (.ireturn, 1) := dk_L_isNull_b0 (15, .ireturn, 1) (List.mem_of_getElem? (i := 9) rfl)
theorem cw_L_isNull : gj_cw mt_L_isNull ∈ tw_all := mw_901
theorem pl_L_isNull : gj_plain mt_L_isNull.y := ⟨by decide +kernel, by decide +kernel⟩
theorem pn_L_isNull : plainName mt_L_isNull.y.cls = true := by decide +kernel
theorem np_L_isNull : gj_np mt_L_isNull.y = some 1 := by decide +kernel
def mt_L_isTruth : Mt := (⟨"TruthBench$Slots", "isTruth", "(II)Z"⟩, prog_9_method_3_code, 3, some .boolean, [])
def dl_L_isTruth_b0 : List (Nat × Instr × Nat) := [(0, .aload_n 0, 1), (1, .getfield 9, 3), (4, .iload_n 1, 1), (5, .iaload, 1), (6, .iconst 2, 1), (7, .if_icmp .ne 19, 3), (10, .aload_n 0, 1), (11, .getfield 15, 3), (14, .iload_n 1, 1), (15, .laload, 1), (16, .iload_n 2, 1), (17, .i2l, 1), (18, .lcmp, 1), (19, .ifCond .ne 7, 3), (22, .iconst 1, 1), (23, .goto 4, 3), (26, .iconst 0, 1), (27, .ireturn, 1)]
set_option maxRecDepth 100000 in
theorem dk_L_isTruth_b0 : ∀ q ∈ dl_L_isTruth_b0, decode mt_L_isTruth.cc q.1 = .ok (q.2.1, q.2.2) := by decide +kernel
theorem dd_L_isTruth_0 : decode mt_L_isTruth.cc 0 = .ok (.aload_n 0, 1) := dk_L_isTruth_b0 (0, .aload_n 0, 1) (List.mem_of_getElem? (i := 0) rfl)
theorem dd_L_isTruth_1 : decode mt_L_isTruth.cc 1 = .ok (.getfield 9, 3) := dk_L_isTruth_b0 (1, .getfield 9, 3) (List.mem_of_getElem? (i := 1) rfl)
theorem dd_L_isTruth_4 : decode mt_L_isTruth.cc 4 = .ok (.iload_n 1, 1) := dk_L_isTruth_b0 (4, .iload_n 1, 1) (List.mem_of_getElem? (i := 2) rfl)
theorem dd_L_isTruth_5 : decode mt_L_isTruth.cc 5 = .ok (.iaload, 1) := dk_L_isTruth_b0 (5, .iaload, 1) (List.mem_of_getElem? (i := 3) rfl)
theorem dd_L_isTruth_6 : decode mt_L_isTruth.cc 6 = .ok (.iconst 2, 1) := dk_L_isTruth_b0 (6, .iconst 2, 1) (List.mem_of_getElem? (i := 4) rfl)
theorem dd_L_isTruth_7 : decode mt_L_isTruth.cc 7 = .ok (.if_icmp .ne 19, 3) := dk_L_isTruth_b0 (7, .if_icmp .ne 19, 3) (List.mem_of_getElem? (i := 5) rfl)
theorem dd_L_isTruth_10 : decode mt_L_isTruth.cc 10 = .ok (.aload_n 0, 1) := dk_L_isTruth_b0 (10, .aload_n 0, 1) (List.mem_of_getElem? (i := 6) rfl)
theorem dd_L_isTruth_11 : decode mt_L_isTruth.cc 11 = .ok (.getfield 15, 3) := dk_L_isTruth_b0 (11, .getfield 15, 3) (List.mem_of_getElem? (i := 7) rfl)
theorem dd_L_isTruth_14 : decode mt_L_isTruth.cc 14 = .ok (.iload_n 1, 1) := dk_L_isTruth_b0 (14, .iload_n 1, 1) (List.mem_of_getElem? (i := 8) rfl)
theorem dd_L_isTruth_15 : decode mt_L_isTruth.cc 15 = .ok (.laload, 1) := dk_L_isTruth_b0 (15, .laload, 1) (List.mem_of_getElem? (i := 9) rfl)
theorem dd_L_isTruth_16 : decode mt_L_isTruth.cc 16 = .ok (.iload_n 2, 1) := dk_L_isTruth_b0 (16, .iload_n 2, 1) (List.mem_of_getElem? (i := 10) rfl)
theorem dd_L_isTruth_17 : decode mt_L_isTruth.cc 17 = .ok (.i2l, 1) := dk_L_isTruth_b0 (17, .i2l, 1) (List.mem_of_getElem? (i := 11) rfl)
theorem dd_L_isTruth_18 : decode mt_L_isTruth.cc 18 = .ok (.lcmp, 1) := dk_L_isTruth_b0 (18, .lcmp, 1) (List.mem_of_getElem? (i := 12) rfl)
theorem dd_L_isTruth_19 : decode mt_L_isTruth.cc 19 = .ok (.ifCond .ne 7, 3) := dk_L_isTruth_b0 (19, .ifCond .ne 7, 3) (List.mem_of_getElem? (i := 13) rfl)
theorem dd_L_isTruth_22 : decode mt_L_isTruth.cc 22 = .ok (.iconst 1, 1) := dk_L_isTruth_b0 (22, .iconst 1, 1) (List.mem_of_getElem? (i := 14) rfl)
theorem dd_L_isTruth_23 : decode mt_L_isTruth.cc 23 = .ok (.goto 4, 3) := dk_L_isTruth_b0 (23, .goto 4, 3) (List.mem_of_getElem? (i := 15) rfl)
theorem dd_L_isTruth_26 : decode mt_L_isTruth.cc 26 = .ok (.iconst 0, 1) := dk_L_isTruth_b0 (26, .iconst 0, 1) (List.mem_of_getElem? (i := 16) rfl)
theorem dd_L_isTruth_27 : decode mt_L_isTruth.cc 27 = .ok (.ireturn, 1) := dk_L_isTruth_b0 (27, .ireturn, 1) (List.mem_of_getElem? (i := 17) rfl)
theorem cw_L_isTruth : gj_cw mt_L_isTruth ∈ tw_all := mw_916
theorem pl_L_isTruth : gj_plain mt_L_isTruth.y := ⟨by decide +kernel, by decide +kernel⟩
theorem pn_L_isTruth : plainName mt_L_isTruth.y.cls = true := by decide +kernel
theorem np_L_isTruth : gj_np mt_L_isTruth.y = some 2 := by decide +kernel
def mt_L_putTruth : Mt := (⟨"TruthBench$Slots", "putTruth", "(IZ)V"⟩, prog_9_method_5_code, 3, none, [])
def dl_L_putTruth_b0 : List (Nat × Instr × Nat) := [(0, .aload_n 0, 1), (1, .iload_n 1, 1), (2, .iconst 2, 1), (3, .iload_n 2, 1), (4, .ifCond .eq 7, 3), (7, .lconst 1, 1), (8, .goto 4, 3), (11, .lconst 0, 1), (12, .invokevirtual 27, 3), (15, .return_, 1)]
set_option maxRecDepth 100000 in
theorem dk_L_putTruth_b0 : ∀ q ∈ dl_L_putTruth_b0, decode mt_L_putTruth.cc q.1 = .ok (q.2.1, q.2.2) := by decide +kernel
theorem dd_L_putTruth_0 : decode mt_L_putTruth.cc 0 = .ok (.aload_n 0, 1) := dk_L_putTruth_b0 (0, .aload_n 0, 1) (List.mem_of_getElem? (i := 0) rfl)
theorem dd_L_putTruth_1 : decode mt_L_putTruth.cc 1 = .ok (.iload_n 1, 1) := dk_L_putTruth_b0 (1, .iload_n 1, 1) (List.mem_of_getElem? (i := 1) rfl)
theorem dd_L_putTruth_2 : decode mt_L_putTruth.cc 2 = .ok (.iconst 2, 1) := dk_L_putTruth_b0 (2, .iconst 2, 1) (List.mem_of_getElem? (i := 2) rfl)
theorem dd_L_putTruth_3 : decode mt_L_putTruth.cc 3 = .ok (.iload_n 2, 1) := dk_L_putTruth_b0 (3, .iload_n 2, 1) (List.mem_of_getElem? (i := 3) rfl)
theorem dd_L_putTruth_4 : decode mt_L_putTruth.cc 4 = .ok (.ifCond .eq 7, 3) := dk_L_putTruth_b0 (4, .ifCond .eq 7, 3) (List.mem_of_getElem? (i := 4) rfl)
theorem dd_L_putTruth_7 : decode mt_L_putTruth.cc 7 = .ok (.lconst 1, 1) := dk_L_putTruth_b0 (7, .lconst 1, 1) (List.mem_of_getElem? (i := 5) rfl)
theorem dd_L_putTruth_8 : decode mt_L_putTruth.cc 8 = .ok (.goto 4, 3) := dk_L_putTruth_b0 (8, .goto 4, 3) (List.mem_of_getElem? (i := 6) rfl)
theorem dd_L_putTruth_11 : decode mt_L_putTruth.cc 11 = .ok (.lconst 0, 1) := dk_L_putTruth_b0 (11, .lconst 0, 1) (List.mem_of_getElem? (i := 7) rfl)
theorem dd_L_putTruth_12 : decode mt_L_putTruth.cc 12 = .ok (.invokevirtual 27, 3) := dk_L_putTruth_b0 (12, .invokevirtual 27, 3) (List.mem_of_getElem? (i := 8) rfl)
theorem dd_L_putTruth_15 : decode mt_L_putTruth.cc 15 = .ok (.return_, 1) := dk_L_putTruth_b0 (15, .return_, 1) (List.mem_of_getElem? (i := 9) rfl)
theorem cw_L_putTruth : gj_cw mt_L_putTruth ∈ tw_all := mw_940
theorem pl_L_putTruth : gj_plain mt_L_putTruth.y := ⟨by decide +kernel, by decide +kernel⟩
theorem pn_L_putTruth : plainName mt_L_putTruth.y.cls = true := by decide +kernel
theorem np_L_putTruth : gj_np mt_L_putTruth.y = some 2 := by decide +kernel
def mt_S_followedBy : Mt := (⟨"TruthBench$Scanner", "followedBy", "(I)Z"⟩, prog_7_method_7_code, 2, some .boolean, [])
def dl_S_followedBy_b0 : List (Nat × Instr × Nat) := [(0, .aload_n 0, 1), (1, .getfield 15, 3), (4, .iconst 1, 1), (5, .iadd, 1), (6, .aload_n 0, 1), (7, .getfield 9, 3), (10, .if_icmp .ge 22, 3), (13, .aload_n 0, 1), (14, .getfield 37, 3), (17, .aload_n 0, 1), (18, .getfield 15, 3), (21, .iconst 1, 1), (22, .iadd, 1), (23, .baload, 1), (24, .iload_n 1, 1), (25, .if_icmp .ne 7, 3), (28, .iconst 1, 1), (29, .goto 4, 3), (32, .iconst 0, 1), (33, .ireturn, 1)]
set_option maxRecDepth 100000 in
theorem dk_S_followedBy_b0 : ∀ q ∈ dl_S_followedBy_b0, decode mt_S_followedBy.cc q.1 = .ok (q.2.1, q.2.2) := by decide +kernel
theorem dd_S_followedBy_0 : decode mt_S_followedBy.cc 0 = .ok (.aload_n 0, 1) := dk_S_followedBy_b0 (0, .aload_n 0, 1) (List.mem_of_getElem? (i := 0) rfl)
theorem dd_S_followedBy_1 : decode mt_S_followedBy.cc 1 = .ok (.getfield 15, 3) := dk_S_followedBy_b0 (1, .getfield 15, 3) (List.mem_of_getElem? (i := 1) rfl)
theorem dd_S_followedBy_4 : decode mt_S_followedBy.cc 4 = .ok (.iconst 1, 1) := dk_S_followedBy_b0 (4, .iconst 1, 1) (List.mem_of_getElem? (i := 2) rfl)
theorem dd_S_followedBy_5 : decode mt_S_followedBy.cc 5 = .ok (.iadd, 1) := dk_S_followedBy_b0 (5, .iadd, 1) (List.mem_of_getElem? (i := 3) rfl)
theorem dd_S_followedBy_6 : decode mt_S_followedBy.cc 6 = .ok (.aload_n 0, 1) := dk_S_followedBy_b0 (6, .aload_n 0, 1) (List.mem_of_getElem? (i := 4) rfl)
theorem dd_S_followedBy_7 : decode mt_S_followedBy.cc 7 = .ok (.getfield 9, 3) := dk_S_followedBy_b0 (7, .getfield 9, 3) (List.mem_of_getElem? (i := 5) rfl)
theorem dd_S_followedBy_10 : decode mt_S_followedBy.cc 10 = .ok (.if_icmp .ge 22, 3) := dk_S_followedBy_b0 (10, .if_icmp .ge 22, 3) (List.mem_of_getElem? (i := 6) rfl)
theorem dd_S_followedBy_13 : decode mt_S_followedBy.cc 13 = .ok (.aload_n 0, 1) := dk_S_followedBy_b0 (13, .aload_n 0, 1) (List.mem_of_getElem? (i := 7) rfl)
theorem dd_S_followedBy_14 : decode mt_S_followedBy.cc 14 = .ok (.getfield 37, 3) := dk_S_followedBy_b0 (14, .getfield 37, 3) (List.mem_of_getElem? (i := 8) rfl)
theorem dd_S_followedBy_17 : decode mt_S_followedBy.cc 17 = .ok (.aload_n 0, 1) := dk_S_followedBy_b0 (17, .aload_n 0, 1) (List.mem_of_getElem? (i := 9) rfl)
theorem dd_S_followedBy_18 : decode mt_S_followedBy.cc 18 = .ok (.getfield 15, 3) := dk_S_followedBy_b0 (18, .getfield 15, 3) (List.mem_of_getElem? (i := 10) rfl)
theorem dd_S_followedBy_21 : decode mt_S_followedBy.cc 21 = .ok (.iconst 1, 1) := dk_S_followedBy_b0 (21, .iconst 1, 1) (List.mem_of_getElem? (i := 11) rfl)
theorem dd_S_followedBy_22 : decode mt_S_followedBy.cc 22 = .ok (.iadd, 1) := dk_S_followedBy_b0 (22, .iadd, 1) (List.mem_of_getElem? (i := 12) rfl)
theorem dd_S_followedBy_23 : decode mt_S_followedBy.cc 23 = .ok (.baload, 1) := dk_S_followedBy_b0 (23, .baload, 1) (List.mem_of_getElem? (i := 13) rfl)
theorem dd_S_followedBy_24 : decode mt_S_followedBy.cc 24 = .ok (.iload_n 1, 1) := dk_S_followedBy_b0 (24, .iload_n 1, 1) (List.mem_of_getElem? (i := 14) rfl)
theorem dd_S_followedBy_25 : decode mt_S_followedBy.cc 25 = .ok (.if_icmp .ne 7, 3) := dk_S_followedBy_b0 (25, .if_icmp .ne 7, 3) (List.mem_of_getElem? (i := 15) rfl)
theorem dd_S_followedBy_28 : decode mt_S_followedBy.cc 28 = .ok (.iconst 1, 1) := dk_S_followedBy_b0 (28, .iconst 1, 1) (List.mem_of_getElem? (i := 16) rfl)
theorem dd_S_followedBy_29 : decode mt_S_followedBy.cc 29 = .ok (.goto 4, 3) := dk_S_followedBy_b0 (29, .goto 4, 3) (List.mem_of_getElem? (i := 17) rfl)
theorem dd_S_followedBy_32 : decode mt_S_followedBy.cc 32 = .ok (.iconst 0, 1) := dk_S_followedBy_b0 (32, .iconst 0, 1) (List.mem_of_getElem? (i := 18) rfl)
theorem dd_S_followedBy_33 : decode mt_S_followedBy.cc 33 = .ok (.ireturn, 1) := dk_S_followedBy_b0 (33, .ireturn, 1) (List.mem_of_getElem? (i := 19) rfl)
theorem cw_S_followedBy : gj_cw mt_S_followedBy ∈ tw_all := mw_422
theorem pl_S_followedBy : gj_plain mt_S_followedBy.y := ⟨by decide +kernel, by decide +kernel⟩
theorem pn_S_followedBy : plainName mt_S_followedBy.y.cls = true := by decide +kernel
theorem np_S_followedBy : gj_np mt_S_followedBy.y = some 1 := by decide +kernel
def mt_G_drop : Mt := (⟨"TruthBench$Program", "drop", "()V"⟩, prog_6_method_2_code, 1, none, [])
def dl_G_drop_b0 : List (Nat × Instr × Nat) := [(0, .aload_n 0, 1), (1, .iconst 0, 1), (2, .putfield 29, 3), (5, .aload_n 0, 1), (6, .iconst 0, 1), (7, .putfield 25, 3), (10, .return_, 1)]
set_option maxRecDepth 100000 in
theorem dk_G_drop_b0 : ∀ q ∈ dl_G_drop_b0, decode mt_G_drop.cc q.1 = .ok (q.2.1, q.2.2) := by decide +kernel
theorem dd_G_drop_0 : decode mt_G_drop.cc 0 = .ok (.aload_n 0, 1) := dk_G_drop_b0 (0, .aload_n 0, 1) (List.mem_of_getElem? (i := 0) rfl)
theorem dd_G_drop_1 : decode mt_G_drop.cc 1 = .ok (.iconst 0, 1) := dk_G_drop_b0 (1, .iconst 0, 1) (List.mem_of_getElem? (i := 1) rfl)
theorem dd_G_drop_2 : decode mt_G_drop.cc 2 = .ok (.putfield 29, 3) := dk_G_drop_b0 (2, .putfield 29, 3) (List.mem_of_getElem? (i := 2) rfl)
theorem dd_G_drop_5 : decode mt_G_drop.cc 5 = .ok (.aload_n 0, 1) := dk_G_drop_b0 (5, .aload_n 0, 1) (List.mem_of_getElem? (i := 3) rfl)
theorem dd_G_drop_6 : decode mt_G_drop.cc 6 = .ok (.iconst 0, 1) := dk_G_drop_b0 (6, .iconst 0, 1) (List.mem_of_getElem? (i := 4) rfl)
theorem dd_G_drop_7 : decode mt_G_drop.cc 7 = .ok (.putfield 25, 3) := dk_G_drop_b0 (7, .putfield 25, 3) (List.mem_of_getElem? (i := 5) rfl)
theorem dd_G_drop_10 : decode mt_G_drop.cc 10 = .ok (.return_, 1) := dk_G_drop_b0 (10, .return_, 1) (List.mem_of_getElem? (i := 6) rfl)
theorem cw_G_drop : gj_cw mt_G_drop ∈ tw_all := mw_405
theorem pl_G_drop : gj_plain mt_G_drop.y := ⟨by decide +kernel, by decide +kernel⟩
theorem pn_G_drop : plainName mt_G_drop.y.cls = true := by decide +kernel
theorem np_G_drop : gj_np mt_G_drop.y = some 0 := by decide +kernel
