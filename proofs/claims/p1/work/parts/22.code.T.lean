def mt_T_init : Mt := (⟨"TruthBench", "<init>", "()V"⟩, prog_1_method_1_code, 1, none, [])
def dl_T_init_b0 : List (Nat × Instr × Nat) := [(0, .aload_n 0, 1), (1, .invokespecial 3, 3), (4, .aload_n 0, 1), (5, .sipush 1000, 3), (8, .newarray .byte, 2), (10, .putfield 9, 3), (13, .aload_n 0, 1), (14, .iconst 0, 1), (15, .putfield 13, 3), (18, .aload_n 0, 1), (19, .bipush 8, 2), (21, .newarray .int, 2), (23, .putfield 17, 3), (26, .aload_n 0, 1), (27, .new 21, 3), (30, .dup, 1), (31, .invokespecial 23, 3), (34, .putfield 24, 3), (37, .aload_n 0, 1), (38, .new 28, 3), (41, .dup, 1), (42, .invokespecial 30, 3), (45, .putfield 31, 3), (48, .aload_n 0, 1), (49, .new 28, 3), (52, .dup, 1), (53, .invokespecial 30, 3), (56, .putfield 35, 3), (59, .aload_n 0, 1), (60, .new 38, 3), (63, .dup, 1), (64, .aload_n 0, 1), (65, .getfield 9, 3), (68, .aload_n 0, 1), (69, .getfield 35, 3), (72, .invokespecial 40, 3), (75, .putfield 43, 3), (78, .aload_n 0, 1), (79, .new 47, 3), (82, .dup, 1), (83, .invokespecial 49, 3), (86, .putfield 50, 3), (89, .aload_n 0, 1), (90, .new 54, 3), (93, .dup, 1), (94, .aload_n 0, 1), (95, .getfield 24, 3), (98, .invokespecial 56, 3), (101, .putfield 59, 3), (104, .aload_n 0, 1), (105, .iconst (-1), 1), (106, .putfield 63, 3), (109, .aload_n 0, 1), (110, .iconst 0, 1), (111, .putfield 66, 3), (114, .return_, 1)]
set_option maxRecDepth 100000 in
theorem dk_T_init_b0 : ∀ q ∈ dl_T_init_b0, decode mt_T_init.cc q.1 = .ok (q.2.1, q.2.2) := by decide +kernel
theorem dd_T_init_0 : decode mt_T_init.cc 0 = .ok (.aload_n 0, 1) := dk_T_init_b0 (0, .aload_n 0, 1) (List.mem_of_getElem? (i := 0) rfl)
theorem dd_T_init_1 : decode mt_T_init.cc 1 = .ok (.invokespecial 3, 3) := dk_T_init_b0 (1, .invokespecial 3, 3) (List.mem_of_getElem? (i := 1) rfl)
theorem dd_T_init_4 : decode mt_T_init.cc 4 = .ok (.aload_n 0, 1) := dk_T_init_b0 (4, .aload_n 0, 1) (List.mem_of_getElem? (i := 2) rfl)
theorem dd_T_init_5 : decode mt_T_init.cc 5 = .ok (.sipush 1000, 3) := dk_T_init_b0 (5, .sipush 1000, 3) (List.mem_of_getElem? (i := 3) rfl)
theorem dd_T_init_8 : decode mt_T_init.cc 8 = .ok (.newarray .byte, 2) := dk_T_init_b0 (8, .newarray .byte, 2) (List.mem_of_getElem? (i := 4) rfl)
theorem dd_T_init_10 : decode mt_T_init.cc 10 = .ok (.putfield 9, 3) := dk_T_init_b0 (10, .putfield 9, 3) (List.mem_of_getElem? (i := 5) rfl)
theorem dd_T_init_13 : decode mt_T_init.cc 13 = .ok (.aload_n 0, 1) := dk_T_init_b0 (13, .aload_n 0, 1) (List.mem_of_getElem? (i := 6) rfl)
theorem dd_T_init_14 : decode mt_T_init.cc 14 = .ok (.iconst 0, 1) := dk_T_init_b0 (14, .iconst 0, 1) (List.mem_of_getElem? (i := 7) rfl)
theorem dd_T_init_15 : decode mt_T_init.cc 15 = .ok (.putfield 13, 3) := dk_T_init_b0 (15, .putfield 13, 3) (List.mem_of_getElem? (i := 8) rfl)
theorem dd_T_init_18 : decode mt_T_init.cc 18 = .ok (.aload_n 0, 1) := dk_T_init_b0 (18, .aload_n 0, 1) (List.mem_of_getElem? (i := 9) rfl)
theorem dd_T_init_19 : decode mt_T_init.cc 19 = .ok (.bipush 8, 2) := dk_T_init_b0 (19, .bipush 8, 2) (List.mem_of_getElem? (i := 10) rfl)
theorem dd_T_init_21 : decode mt_T_init.cc 21 = .ok (.newarray .int, 2) := dk_T_init_b0 (21, .newarray .int, 2) (List.mem_of_getElem? (i := 11) rfl)
theorem dd_T_init_23 : decode mt_T_init.cc 23 = .ok (.putfield 17, 3) := dk_T_init_b0 (23, .putfield 17, 3) (List.mem_of_getElem? (i := 12) rfl)
theorem dd_T_init_26 : decode mt_T_init.cc 26 = .ok (.aload_n 0, 1) := dk_T_init_b0 (26, .aload_n 0, 1) (List.mem_of_getElem? (i := 13) rfl)
theorem dd_T_init_27 : decode mt_T_init.cc 27 = .ok (.new 21, 3) := dk_T_init_b0 (27, .new 21, 3) (List.mem_of_getElem? (i := 14) rfl)
theorem dd_T_init_30 : decode mt_T_init.cc 30 = .ok (.dup, 1) := dk_T_init_b0 (30, .dup, 1) (List.mem_of_getElem? (i := 15) rfl)
theorem dd_T_init_31 : decode mt_T_init.cc 31 = .ok (.invokespecial 23, 3) := dk_T_init_b0 (31, .invokespecial 23, 3) (List.mem_of_getElem? (i := 16) rfl)
theorem dd_T_init_34 : decode mt_T_init.cc 34 = .ok (.putfield 24, 3) := dk_T_init_b0 (34, .putfield 24, 3) (List.mem_of_getElem? (i := 17) rfl)
theorem dd_T_init_37 : decode mt_T_init.cc 37 = .ok (.aload_n 0, 1) := dk_T_init_b0 (37, .aload_n 0, 1) (List.mem_of_getElem? (i := 18) rfl)
theorem dd_T_init_38 : decode mt_T_init.cc 38 = .ok (.new 28, 3) := dk_T_init_b0 (38, .new 28, 3) (List.mem_of_getElem? (i := 19) rfl)
theorem dd_T_init_41 : decode mt_T_init.cc 41 = .ok (.dup, 1) := dk_T_init_b0 (41, .dup, 1) (List.mem_of_getElem? (i := 20) rfl)
theorem dd_T_init_42 : decode mt_T_init.cc 42 = .ok (.invokespecial 30, 3) := dk_T_init_b0 (42, .invokespecial 30, 3) (List.mem_of_getElem? (i := 21) rfl)
theorem dd_T_init_45 : decode mt_T_init.cc 45 = .ok (.putfield 31, 3) := dk_T_init_b0 (45, .putfield 31, 3) (List.mem_of_getElem? (i := 22) rfl)
theorem dd_T_init_48 : decode mt_T_init.cc 48 = .ok (.aload_n 0, 1) := dk_T_init_b0 (48, .aload_n 0, 1) (List.mem_of_getElem? (i := 23) rfl)
theorem dd_T_init_49 : decode mt_T_init.cc 49 = .ok (.new 28, 3) := dk_T_init_b0 (49, .new 28, 3) (List.mem_of_getElem? (i := 24) rfl)
theorem dd_T_init_52 : decode mt_T_init.cc 52 = .ok (.dup, 1) := dk_T_init_b0 (52, .dup, 1) (List.mem_of_getElem? (i := 25) rfl)
theorem dd_T_init_53 : decode mt_T_init.cc 53 = .ok (.invokespecial 30, 3) := dk_T_init_b0 (53, .invokespecial 30, 3) (List.mem_of_getElem? (i := 26) rfl)
theorem dd_T_init_56 : decode mt_T_init.cc 56 = .ok (.putfield 35, 3) := dk_T_init_b0 (56, .putfield 35, 3) (List.mem_of_getElem? (i := 27) rfl)
theorem dd_T_init_59 : decode mt_T_init.cc 59 = .ok (.aload_n 0, 1) := dk_T_init_b0 (59, .aload_n 0, 1) (List.mem_of_getElem? (i := 28) rfl)
theorem dd_T_init_60 : decode mt_T_init.cc 60 = .ok (.new 38, 3) := dk_T_init_b0 (60, .new 38, 3) (List.mem_of_getElem? (i := 29) rfl)
theorem dd_T_init_63 : decode mt_T_init.cc 63 = .ok (.dup, 1) := dk_T_init_b0 (63, .dup, 1) (List.mem_of_getElem? (i := 30) rfl)
theorem dd_T_init_64 : decode mt_T_init.cc 64 = .ok (.aload_n 0, 1) := dk_T_init_b0 (64, .aload_n 0, 1) (List.mem_of_getElem? (i := 31) rfl)
theorem dd_T_init_65 : decode mt_T_init.cc 65 = .ok (.getfield 9, 3) := dk_T_init_b0 (65, .getfield 9, 3) (List.mem_of_getElem? (i := 32) rfl)
theorem dd_T_init_68 : decode mt_T_init.cc 68 = .ok (.aload_n 0, 1) := dk_T_init_b0 (68, .aload_n 0, 1) (List.mem_of_getElem? (i := 33) rfl)
theorem dd_T_init_69 : decode mt_T_init.cc 69 = .ok (.getfield 35, 3) := dk_T_init_b0 (69, .getfield 35, 3) (List.mem_of_getElem? (i := 34) rfl)
theorem dd_T_init_72 : decode mt_T_init.cc 72 = .ok (.invokespecial 40, 3) := dk_T_init_b0 (72, .invokespecial 40, 3) (List.mem_of_getElem? (i := 35) rfl)
theorem dd_T_init_75 : decode mt_T_init.cc 75 = .ok (.putfield 43, 3) := dk_T_init_b0 (75, .putfield 43, 3) (List.mem_of_getElem? (i := 36) rfl)
theorem dd_T_init_78 : decode mt_T_init.cc 78 = .ok (.aload_n 0, 1) := dk_T_init_b0 (78, .aload_n 0, 1) (List.mem_of_getElem? (i := 37) rfl)
theorem dd_T_init_79 : decode mt_T_init.cc 79 = .ok (.new 47, 3) := dk_T_init_b0 (79, .new 47, 3) (List.mem_of_getElem? (i := 38) rfl)
theorem dd_T_init_82 : decode mt_T_init.cc 82 = .ok (.dup, 1) := dk_T_init_b0 (82, .dup, 1) (List.mem_of_getElem? (i := 39) rfl)
theorem dd_T_init_83 : decode mt_T_init.cc 83 = .ok (.invokespecial 49, 3) := dk_T_init_b0 (83, .invokespecial 49, 3) (List.mem_of_getElem? (i := 40) rfl)
theorem dd_T_init_86 : decode mt_T_init.cc 86 = .ok (.putfield 50, 3) := dk_T_init_b0 (86, .putfield 50, 3) (List.mem_of_getElem? (i := 41) rfl)
theorem dd_T_init_89 : decode mt_T_init.cc 89 = .ok (.aload_n 0, 1) := dk_T_init_b0 (89, .aload_n 0, 1) (List.mem_of_getElem? (i := 42) rfl)
theorem dd_T_init_90 : decode mt_T_init.cc 90 = .ok (.new 54, 3) := dk_T_init_b0 (90, .new 54, 3) (List.mem_of_getElem? (i := 43) rfl)
theorem dd_T_init_93 : decode mt_T_init.cc 93 = .ok (.dup, 1) := dk_T_init_b0 (93, .dup, 1) (List.mem_of_getElem? (i := 44) rfl)
theorem dd_T_init_94 : decode mt_T_init.cc 94 = .ok (.aload_n 0, 1) := dk_T_init_b0 (94, .aload_n 0, 1) (List.mem_of_getElem? (i := 45) rfl)
theorem dd_T_init_95 : decode mt_T_init.cc 95 = .ok (.getfield 24, 3) := dk_T_init_b0 (95, .getfield 24, 3) (List.mem_of_getElem? (i := 46) rfl)
theorem dd_T_init_98 : decode mt_T_init.cc 98 = .ok (.invokespecial 56, 3) := dk_T_init_b0 (98, .invokespecial 56, 3) (List.mem_of_getElem? (i := 47) rfl)
theorem dd_T_init_101 : decode mt_T_init.cc 101 = .ok (.putfield 59, 3) := dk_T_init_b0 (101, .putfield 59, 3) (List.mem_of_getElem? (i := 48) rfl)
theorem dd_T_init_104 : decode mt_T_init.cc 104 = .ok (.aload_n 0, 1) := dk_T_init_b0 (104, .aload_n 0, 1) (List.mem_of_getElem? (i := 49) rfl)
theorem dd_T_init_105 : decode mt_T_init.cc 105 = .ok (.iconst (-1), 1) := dk_T_init_b0 (105, .iconst (-1), 1) (List.mem_of_getElem? (i := 50) rfl)
theorem dd_T_init_106 : decode mt_T_init.cc 106 = .ok (.putfield 63, 3) := dk_T_init_b0 (106, .putfield 63, 3) (List.mem_of_getElem? (i := 51) rfl)
theorem dd_T_init_109 : decode mt_T_init.cc 109 = .ok (.aload_n 0, 1) := dk_T_init_b0 (109, .aload_n 0, 1) (List.mem_of_getElem? (i := 52) rfl)
theorem dd_T_init_110 : decode mt_T_init.cc 110 = .ok (.iconst 0, 1) := dk_T_init_b0 (110, .iconst 0, 1) (List.mem_of_getElem? (i := 53) rfl)
theorem dd_T_init_111 : decode mt_T_init.cc 111 = .ok (.putfield 66, 3) := dk_T_init_b0 (111, .putfield 66, 3) (List.mem_of_getElem? (i := 54) rfl)
theorem dd_T_init_114 : decode mt_T_init.cc 114 = .ok (.return_, 1) := dk_T_init_b0 (114, .return_, 1) (List.mem_of_getElem? (i := 55) rfl)
theorem cw_T_init : gj_cw mt_T_init ∈ tw_all := mw_41
theorem pl_T_init : gj_plain mt_T_init.y := ⟨by decide +kernel, by decide +kernel⟩
theorem pn_T_init : plainName mt_T_init.y.cls = true := by decide +kernel
theorem np_T_init : gj_np mt_T_init.y = some 0 := by decide +kernel
def mt_T_feed : Mt := (⟨"TruthBench", "feed", "(IIIII)I"⟩, prog_1_method_2_code, 6, some .int, [])
def dl_T_feed_b0 : List (Nat × Instr × Nat) := [(0, .aload_n 0, 1), (1, .getfield 13, 3), (4, .bipush 20, 2), (6, .iadd, 1), (7, .sipush 1000, 3), (10, .if_icmp .le 11, 3), (13, .new 69, 3), (16, .dup, 1), (17, .invokespecial 71, 3), (20, .athrow, 1), (21, .aload_n 0, 1), (22, .iload_n 1, 1), (23, .invokevirtual 72, 3), (26, .aload_n 0, 1), (27, .iload_n 2, 1), (28, .invokevirtual 72, 3), (31, .aload_n 0, 1), (32, .iload_n 3, 1), (33, .invokevirtual 72, 3), (36, .aload_n 0, 1), (37, .iload 4, 2), (39, .invokevirtual 72, 3), (42, .aload_n 0, 1), (43, .iload 5, 2), (45, .invokevirtual 72, 3), (48, .aload_n 0, 1), (49, .getfield 13, 3), (52, .ireturn, 1)]
set_option maxRecDepth 100000 in
theorem dk_T_feed_b0 : ∀ q ∈ dl_T_feed_b0, decode mt_T_feed.cc q.1 = .ok (q.2.1, q.2.2) := by decide +kernel
theorem dd_T_feed_0 : decode mt_T_feed.cc 0 = .ok (.aload_n 0, 1) := dk_T_feed_b0 (0, .aload_n 0, 1) (List.mem_of_getElem? (i := 0) rfl)
theorem dd_T_feed_1 : decode mt_T_feed.cc 1 = .ok (.getfield 13, 3) := dk_T_feed_b0 (1, .getfield 13, 3) (List.mem_of_getElem? (i := 1) rfl)
theorem dd_T_feed_4 : decode mt_T_feed.cc 4 = .ok (.bipush 20, 2) := dk_T_feed_b0 (4, .bipush 20, 2) (List.mem_of_getElem? (i := 2) rfl)
theorem dd_T_feed_6 : decode mt_T_feed.cc 6 = .ok (.iadd, 1) := dk_T_feed_b0 (6, .iadd, 1) (List.mem_of_getElem? (i := 3) rfl)
theorem dd_T_feed_7 : decode mt_T_feed.cc 7 = .ok (.sipush 1000, 3) := dk_T_feed_b0 (7, .sipush 1000, 3) (List.mem_of_getElem? (i := 4) rfl)
theorem dd_T_feed_10 : decode mt_T_feed.cc 10 = .ok (.if_icmp .le 11, 3) := dk_T_feed_b0 (10, .if_icmp .le 11, 3) (List.mem_of_getElem? (i := 5) rfl)
theorem dd_T_feed_13 : decode mt_T_feed.cc 13 = .ok (.new 69, 3) := dk_T_feed_b0 (13, .new 69, 3) (List.mem_of_getElem? (i := 6) rfl)
theorem dd_T_feed_16 : decode mt_T_feed.cc 16 = .ok (.dup, 1) := dk_T_feed_b0 (16, .dup, 1) (List.mem_of_getElem? (i := 7) rfl)
theorem dd_T_feed_17 : decode mt_T_feed.cc 17 = .ok (.invokespecial 71, 3) := dk_T_feed_b0 (17, .invokespecial 71, 3) (List.mem_of_getElem? (i := 8) rfl)
theorem dd_T_feed_20 : decode mt_T_feed.cc 20 = .ok (.athrow, 1) := dk_T_feed_b0 (20, .athrow, 1) (List.mem_of_getElem? (i := 9) rfl)
theorem dd_T_feed_21 : decode mt_T_feed.cc 21 = .ok (.aload_n 0, 1) := dk_T_feed_b0 (21, .aload_n 0, 1) (List.mem_of_getElem? (i := 10) rfl)
theorem dd_T_feed_22 : decode mt_T_feed.cc 22 = .ok (.iload_n 1, 1) := dk_T_feed_b0 (22, .iload_n 1, 1) (List.mem_of_getElem? (i := 11) rfl)
theorem dd_T_feed_23 : decode mt_T_feed.cc 23 = .ok (.invokevirtual 72, 3) := dk_T_feed_b0 (23, .invokevirtual 72, 3) (List.mem_of_getElem? (i := 12) rfl)
theorem dd_T_feed_26 : decode mt_T_feed.cc 26 = .ok (.aload_n 0, 1) := dk_T_feed_b0 (26, .aload_n 0, 1) (List.mem_of_getElem? (i := 13) rfl)
theorem dd_T_feed_27 : decode mt_T_feed.cc 27 = .ok (.iload_n 2, 1) := dk_T_feed_b0 (27, .iload_n 2, 1) (List.mem_of_getElem? (i := 14) rfl)
theorem dd_T_feed_28 : decode mt_T_feed.cc 28 = .ok (.invokevirtual 72, 3) := dk_T_feed_b0 (28, .invokevirtual 72, 3) (List.mem_of_getElem? (i := 15) rfl)
theorem dd_T_feed_31 : decode mt_T_feed.cc 31 = .ok (.aload_n 0, 1) := dk_T_feed_b0 (31, .aload_n 0, 1) (List.mem_of_getElem? (i := 16) rfl)
theorem dd_T_feed_32 : decode mt_T_feed.cc 32 = .ok (.iload_n 3, 1) := dk_T_feed_b0 (32, .iload_n 3, 1) (List.mem_of_getElem? (i := 17) rfl)
theorem dd_T_feed_33 : decode mt_T_feed.cc 33 = .ok (.invokevirtual 72, 3) := dk_T_feed_b0 (33, .invokevirtual 72, 3) (List.mem_of_getElem? (i := 18) rfl)
theorem dd_T_feed_36 : decode mt_T_feed.cc 36 = .ok (.aload_n 0, 1) := dk_T_feed_b0 (36, .aload_n 0, 1) (List.mem_of_getElem? (i := 19) rfl)
theorem dd_T_feed_37 : decode mt_T_feed.cc 37 = .ok (.iload 4, 2) := dk_T_feed_b0 (37, .iload 4, 2) (List.mem_of_getElem? (i := 20) rfl)
theorem dd_T_feed_39 : decode mt_T_feed.cc 39 = .ok (.invokevirtual 72, 3) := dk_T_feed_b0 (39, .invokevirtual 72, 3) (List.mem_of_getElem? (i := 21) rfl)
theorem dd_T_feed_42 : decode mt_T_feed.cc 42 = .ok (.aload_n 0, 1) := dk_T_feed_b0 (42, .aload_n 0, 1) (List.mem_of_getElem? (i := 22) rfl)
theorem dd_T_feed_43 : decode mt_T_feed.cc 43 = .ok (.iload 5, 2) := dk_T_feed_b0 (43, .iload 5, 2) (List.mem_of_getElem? (i := 23) rfl)
theorem dd_T_feed_45 : decode mt_T_feed.cc 45 = .ok (.invokevirtual 72, 3) := dk_T_feed_b0 (45, .invokevirtual 72, 3) (List.mem_of_getElem? (i := 24) rfl)
theorem dd_T_feed_48 : decode mt_T_feed.cc 48 = .ok (.aload_n 0, 1) := dk_T_feed_b0 (48, .aload_n 0, 1) (List.mem_of_getElem? (i := 25) rfl)
theorem dd_T_feed_49 : decode mt_T_feed.cc 49 = .ok (.getfield 13, 3) := dk_T_feed_b0 (49, .getfield 13, 3) (List.mem_of_getElem? (i := 26) rfl)
theorem dd_T_feed_52 : decode mt_T_feed.cc 52 = .ok (.ireturn, 1) := dk_T_feed_b0 (52, .ireturn, 1) (List.mem_of_getElem? (i := 27) rfl)
theorem cw_T_feed : gj_cw mt_T_feed ∈ tw_all := mw_238
theorem pl_T_feed : gj_plain mt_T_feed.y := ⟨by decide +kernel, by decide +kernel⟩
theorem pn_T_feed : plainName mt_T_feed.y.cls = true := by decide +kernel
theorem np_T_feed : gj_np mt_T_feed.y = some 5 := by decide +kernel
def mt_T_putBytes : Mt := (⟨"TruthBench", "putBytes", "(I)V"⟩, prog_1_method_3_code, 3, none, [])
def dl_T_putBytes_b0 : List (Nat × Instr × Nat) := [(0, .bipush 24, 2), (2, .istore_n 2, 1), (3, .iload_n 2, 1), (4, .ifCond .lt 42, 3), (7, .aload_n 0, 1), (8, .getfield 13, 3), (11, .sipush 1000, 3), (14, .if_icmp .ge 32, 3), (17, .aload_n 0, 1), (18, .getfield 9, 3), (21, .aload_n 0, 1), (22, .getfield 13, 3), (25, .iload_n 1, 1), (26, .iload_n 2, 1), (27, .ishr, 1), (28, .i2b, 1), (29, .bastore, 1), (30, .aload_n 0, 1), (31, .dup, 1), (32, .getfield 13, 3), (35, .iconst 1, 1), (36, .iadd, 1), (37, .putfield 13, 3), (40, .iinc 2 (-8), 3), (43, .goto (-40), 3), (46, .return_, 1)]
set_option maxRecDepth 100000 in
theorem dk_T_putBytes_b0 : ∀ q ∈ dl_T_putBytes_b0, decode mt_T_putBytes.cc q.1 = .ok (q.2.1, q.2.2) := by decide +kernel
theorem dd_T_putBytes_0 : decode mt_T_putBytes.cc 0 = .ok (.bipush 24, 2) := dk_T_putBytes_b0 (0, .bipush 24, 2) (List.mem_of_getElem? (i := 0) rfl)
theorem dd_T_putBytes_2 : decode mt_T_putBytes.cc 2 = .ok (.istore_n 2, 1) := dk_T_putBytes_b0 (2, .istore_n 2, 1) (List.mem_of_getElem? (i := 1) rfl)
theorem dd_T_putBytes_3 : decode mt_T_putBytes.cc 3 = .ok (.iload_n 2, 1) := dk_T_putBytes_b0 (3, .iload_n 2, 1) (List.mem_of_getElem? (i := 2) rfl)
theorem dd_T_putBytes_4 : decode mt_T_putBytes.cc 4 = .ok (.ifCond .lt 42, 3) := dk_T_putBytes_b0 (4, .ifCond .lt 42, 3) (List.mem_of_getElem? (i := 3) rfl)
theorem dd_T_putBytes_7 : decode mt_T_putBytes.cc 7 = .ok (.aload_n 0, 1) := dk_T_putBytes_b0 (7, .aload_n 0, 1) (List.mem_of_getElem? (i := 4) rfl)
theorem dd_T_putBytes_8 : decode mt_T_putBytes.cc 8 = .ok (.getfield 13, 3) := dk_T_putBytes_b0 (8, .getfield 13, 3) (List.mem_of_getElem? (i := 5) rfl)
theorem dd_T_putBytes_11 : decode mt_T_putBytes.cc 11 = .ok (.sipush 1000, 3) := dk_T_putBytes_b0 (11, .sipush 1000, 3) (List.mem_of_getElem? (i := 6) rfl)
theorem dd_T_putBytes_14 : decode mt_T_putBytes.cc 14 = .ok (.if_icmp .ge 32, 3) := dk_T_putBytes_b0 (14, .if_icmp .ge 32, 3) (List.mem_of_getElem? (i := 7) rfl)
theorem dd_T_putBytes_17 : decode mt_T_putBytes.cc 17 = .ok (.aload_n 0, 1) := dk_T_putBytes_b0 (17, .aload_n 0, 1) (List.mem_of_getElem? (i := 8) rfl)
theorem dd_T_putBytes_18 : decode mt_T_putBytes.cc 18 = .ok (.getfield 9, 3) := dk_T_putBytes_b0 (18, .getfield 9, 3) (List.mem_of_getElem? (i := 9) rfl)
theorem dd_T_putBytes_21 : decode mt_T_putBytes.cc 21 = .ok (.aload_n 0, 1) := dk_T_putBytes_b0 (21, .aload_n 0, 1) (List.mem_of_getElem? (i := 10) rfl)
theorem dd_T_putBytes_22 : decode mt_T_putBytes.cc 22 = .ok (.getfield 13, 3) := dk_T_putBytes_b0 (22, .getfield 13, 3) (List.mem_of_getElem? (i := 11) rfl)
theorem dd_T_putBytes_25 : decode mt_T_putBytes.cc 25 = .ok (.iload_n 1, 1) := dk_T_putBytes_b0 (25, .iload_n 1, 1) (List.mem_of_getElem? (i := 12) rfl)
theorem dd_T_putBytes_26 : decode mt_T_putBytes.cc 26 = .ok (.iload_n 2, 1) := dk_T_putBytes_b0 (26, .iload_n 2, 1) (List.mem_of_getElem? (i := 13) rfl)
theorem dd_T_putBytes_27 : decode mt_T_putBytes.cc 27 = .ok (.ishr, 1) := dk_T_putBytes_b0 (27, .ishr, 1) (List.mem_of_getElem? (i := 14) rfl)
theorem dd_T_putBytes_28 : decode mt_T_putBytes.cc 28 = .ok (.i2b, 1) := dk_T_putBytes_b0 (28, .i2b, 1) (List.mem_of_getElem? (i := 15) rfl)
theorem dd_T_putBytes_29 : decode mt_T_putBytes.cc 29 = .ok (.bastore, 1) := dk_T_putBytes_b0 (29, .bastore, 1) (List.mem_of_getElem? (i := 16) rfl)
theorem dd_T_putBytes_30 : decode mt_T_putBytes.cc 30 = .ok (.aload_n 0, 1) := dk_T_putBytes_b0 (30, .aload_n 0, 1) (List.mem_of_getElem? (i := 17) rfl)
theorem dd_T_putBytes_31 : decode mt_T_putBytes.cc 31 = .ok (.dup, 1) := dk_T_putBytes_b0 (31, .dup, 1) (List.mem_of_getElem? (i := 18) rfl)
theorem dd_T_putBytes_32 : decode mt_T_putBytes.cc 32 = .ok (.getfield 13, 3) := dk_T_putBytes_b0 (32, .getfield 13, 3) (List.mem_of_getElem? (i := 19) rfl)
theorem dd_T_putBytes_35 : decode mt_T_putBytes.cc 35 = .ok (.iconst 1, 1) := dk_T_putBytes_b0 (35, .iconst 1, 1) (List.mem_of_getElem? (i := 20) rfl)
theorem dd_T_putBytes_36 : decode mt_T_putBytes.cc 36 = .ok (.iadd, 1) := dk_T_putBytes_b0 (36, .iadd, 1) (List.mem_of_getElem? (i := 21) rfl)
theorem dd_T_putBytes_37 : decode mt_T_putBytes.cc 37 = .ok (.putfield 13, 3) := dk_T_putBytes_b0 (37, .putfield 13, 3) (List.mem_of_getElem? (i := 22) rfl)
theorem dd_T_putBytes_40 : decode mt_T_putBytes.cc 40 = .ok (.iinc 2 (-8), 3) := dk_T_putBytes_b0 (40, .iinc 2 (-8), 3) (List.mem_of_getElem? (i := 23) rfl)
theorem dd_T_putBytes_43 : decode mt_T_putBytes.cc 43 = .ok (.goto (-40), 3) := dk_T_putBytes_b0 (43, .goto (-40), 3) (List.mem_of_getElem? (i := 24) rfl)
theorem dd_T_putBytes_46 : decode mt_T_putBytes.cc 46 = .ok (.return_, 1) := dk_T_putBytes_b0 (46, .return_, 1) (List.mem_of_getElem? (i := 25) rfl)
theorem cw_T_putBytes : gj_cw mt_T_putBytes ∈ tw_all := mw_309
theorem pl_T_putBytes : gj_plain mt_T_putBytes.y := ⟨by decide +kernel, by decide +kernel⟩
theorem pn_T_putBytes : plainName mt_T_putBytes.y.cls = true := by decide +kernel
theorem np_T_putBytes : gj_np mt_T_putBytes.y = some 1 := by decide +kernel
def mt_T_end : Mt := (⟨"TruthBench", "end", "(I)I"⟩, prog_1_method_4_code, 2, some .int, [])
def dl_T_end_b0 : List (Nat × Instr × Nat) := [(0, .iload_n 1, 1), (1, .aload_n 0, 1), (2, .getfield 13, 3), (5, .invokestatic 76, 3), (8, .aload_n 0, 1), (9, .iload_n 1, 1), (10, .putfield 13, 3), (13, .iload_n 1, 1), (14, .ireturn, 1)]
set_option maxRecDepth 100000 in
theorem dk_T_end_b0 : ∀ q ∈ dl_T_end_b0, decode mt_T_end.cc q.1 = .ok (q.2.1, q.2.2) := by decide +kernel
theorem dd_T_end_0 : decode mt_T_end.cc 0 = .ok (.iload_n 1, 1) := dk_T_end_b0 (0, .iload_n 1, 1) (List.mem_of_getElem? (i := 0) rfl)
theorem dd_T_end_1 : decode mt_T_end.cc 1 = .ok (.aload_n 0, 1) := dk_T_end_b0 (1, .aload_n 0, 1) (List.mem_of_getElem? (i := 1) rfl)
theorem dd_T_end_2 : decode mt_T_end.cc 2 = .ok (.getfield 13, 3) := dk_T_end_b0 (2, .getfield 13, 3) (List.mem_of_getElem? (i := 2) rfl)
theorem dd_T_end_5 : decode mt_T_end.cc 5 = .ok (.invokestatic 76, 3) := dk_T_end_b0 (5, .invokestatic 76, 3) (List.mem_of_getElem? (i := 3) rfl)
theorem dd_T_end_8 : decode mt_T_end.cc 8 = .ok (.aload_n 0, 1) := dk_T_end_b0 (8, .aload_n 0, 1) (List.mem_of_getElem? (i := 4) rfl)
theorem dd_T_end_9 : decode mt_T_end.cc 9 = .ok (.iload_n 1, 1) := dk_T_end_b0 (9, .iload_n 1, 1) (List.mem_of_getElem? (i := 5) rfl)
theorem dd_T_end_10 : decode mt_T_end.cc 10 = .ok (.putfield 13, 3) := dk_T_end_b0 (10, .putfield 13, 3) (List.mem_of_getElem? (i := 6) rfl)
theorem dd_T_end_13 : decode mt_T_end.cc 13 = .ok (.iload_n 1, 1) := dk_T_end_b0 (13, .iload_n 1, 1) (List.mem_of_getElem? (i := 7) rfl)
theorem dd_T_end_14 : decode mt_T_end.cc 14 = .ok (.ireturn, 1) := dk_T_end_b0 (14, .ireturn, 1) (List.mem_of_getElem? (i := 8) rfl)
theorem cw_T_end : gj_cw mt_T_end ∈ tw_all := mw_317
theorem pl_T_end : gj_plain mt_T_end.y := ⟨by decide +kernel, by decide +kernel⟩
theorem pn_T_end : plainName mt_T_end.y.cls = true := by decide +kernel
theorem np_T_end : gj_np mt_T_end.y = some 1 := by decide +kernel
def mt_T_refuseOutside : Mt := (⟨"TruthBench", "refuseOutside", "(II)V"⟩, prog_1_method_14_code, 2, none, [])
def dl_T_refuseOutside_b0 : List (Nat × Instr × Nat) := [(0, .iload_n 0, 1), (1, .ifCond .lt 8, 3), (4, .iload_n 0, 1), (5, .iload_n 1, 1), (6, .if_icmp .le 11, 3), (9, .new 87, 3), (12, .dup, 1), (13, .invokespecial 89, 3), (16, .athrow, 1), (17, .return_, 1)]
set_option maxRecDepth 100000 in
theorem dk_T_refuseOutside_b0 : ∀ q ∈ dl_T_refuseOutside_b0, decode mt_T_refuseOutside.cc q.1 = .ok (q.2.1, q.2.2) := by decide +kernel
theorem dd_T_refuseOutside_0 : decode mt_T_refuseOutside.cc 0 = .ok (.iload_n 0, 1) := dk_T_refuseOutside_b0 (0, .iload_n 0, 1) (List.mem_of_getElem? (i := 0) rfl)
theorem dd_T_refuseOutside_1 : decode mt_T_refuseOutside.cc 1 = .ok (.ifCond .lt 8, 3) := dk_T_refuseOutside_b0 (1, .ifCond .lt 8, 3) (List.mem_of_getElem? (i := 1) rfl)
theorem dd_T_refuseOutside_4 : decode mt_T_refuseOutside.cc 4 = .ok (.iload_n 0, 1) := dk_T_refuseOutside_b0 (4, .iload_n 0, 1) (List.mem_of_getElem? (i := 2) rfl)
theorem dd_T_refuseOutside_5 : decode mt_T_refuseOutside.cc 5 = .ok (.iload_n 1, 1) := dk_T_refuseOutside_b0 (5, .iload_n 1, 1) (List.mem_of_getElem? (i := 3) rfl)
theorem dd_T_refuseOutside_6 : decode mt_T_refuseOutside.cc 6 = .ok (.if_icmp .le 11, 3) := dk_T_refuseOutside_b0 (6, .if_icmp .le 11, 3) (List.mem_of_getElem? (i := 4) rfl)
theorem dd_T_refuseOutside_9 : decode mt_T_refuseOutside.cc 9 = .ok (.new 87, 3) := dk_T_refuseOutside_b0 (9, .new 87, 3) (List.mem_of_getElem? (i := 5) rfl)
theorem dd_T_refuseOutside_12 : decode mt_T_refuseOutside.cc 12 = .ok (.dup, 1) := dk_T_refuseOutside_b0 (12, .dup, 1) (List.mem_of_getElem? (i := 6) rfl)
theorem dd_T_refuseOutside_13 : decode mt_T_refuseOutside.cc 13 = .ok (.invokespecial 89, 3) := dk_T_refuseOutside_b0 (13, .invokespecial 89, 3) (List.mem_of_getElem? (i := 7) rfl)
theorem dd_T_refuseOutside_16 : decode mt_T_refuseOutside.cc 16 = .ok (.athrow, 1) := dk_T_refuseOutside_b0 (16, .athrow, 1) (List.mem_of_getElem? (i := 8) rfl)
theorem dd_T_refuseOutside_17 : decode mt_T_refuseOutside.cc 17 = .ok (.return_, 1) := dk_T_refuseOutside_b0 (17, .return_, 1) (List.mem_of_getElem? (i := 9) rfl)
theorem cw_T_refuseOutside : gj_cw mt_T_refuseOutside ∈ tw_all := mw_320
theorem pl_T_refuseOutside : gj_plain mt_T_refuseOutside.y := ⟨by decide +kernel, by decide +kernel⟩
theorem pn_T_refuseOutside : plainName mt_T_refuseOutside.y.cls = true := by decide +kernel
theorem np_T_refuseOutside : gj_np mt_T_refuseOutside.y = some 2 := by decide +kernel
def mt_T_clear : Mt := (⟨"TruthBench", "clear", "(II)V"⟩, prog_1_method_5_code, 3, none, [])
def dl_T_clear_b0 : List (Nat × Instr × Nat) := [(0, .iload_n 1, 1), (1, .bipush 7, 2), (3, .invokestatic 76, 3), (6, .iload_n 2, 1), (7, .iconst 2, 1), (8, .invokestatic 76, 3), (11, .aload_n 0, 1), (12, .getfield 17, 3), (15, .iload_n 1, 1), (16, .iload_n 2, 1), (17, .iastore, 1), (18, .aload_n 0, 1), (19, .getfield 24, 3), (22, .iload_n 1, 1), (23, .invokevirtual 80, 3), (26, .return_, 1)]
set_option maxRecDepth 100000 in
theorem dk_T_clear_b0 : ∀ q ∈ dl_T_clear_b0, decode mt_T_clear.cc q.1 = .ok (q.2.1, q.2.2) := by decide +kernel
theorem dd_T_clear_0 : decode mt_T_clear.cc 0 = .ok (.iload_n 1, 1) := dk_T_clear_b0 (0, .iload_n 1, 1) (List.mem_of_getElem? (i := 0) rfl)
theorem dd_T_clear_1 : decode mt_T_clear.cc 1 = .ok (.bipush 7, 2) := dk_T_clear_b0 (1, .bipush 7, 2) (List.mem_of_getElem? (i := 1) rfl)
theorem dd_T_clear_3 : decode mt_T_clear.cc 3 = .ok (.invokestatic 76, 3) := dk_T_clear_b0 (3, .invokestatic 76, 3) (List.mem_of_getElem? (i := 2) rfl)
theorem dd_T_clear_6 : decode mt_T_clear.cc 6 = .ok (.iload_n 2, 1) := dk_T_clear_b0 (6, .iload_n 2, 1) (List.mem_of_getElem? (i := 3) rfl)
theorem dd_T_clear_7 : decode mt_T_clear.cc 7 = .ok (.iconst 2, 1) := dk_T_clear_b0 (7, .iconst 2, 1) (List.mem_of_getElem? (i := 4) rfl)
theorem dd_T_clear_8 : decode mt_T_clear.cc 8 = .ok (.invokestatic 76, 3) := dk_T_clear_b0 (8, .invokestatic 76, 3) (List.mem_of_getElem? (i := 5) rfl)
theorem dd_T_clear_11 : decode mt_T_clear.cc 11 = .ok (.aload_n 0, 1) := dk_T_clear_b0 (11, .aload_n 0, 1) (List.mem_of_getElem? (i := 6) rfl)
theorem dd_T_clear_12 : decode mt_T_clear.cc 12 = .ok (.getfield 17, 3) := dk_T_clear_b0 (12, .getfield 17, 3) (List.mem_of_getElem? (i := 7) rfl)
theorem dd_T_clear_15 : decode mt_T_clear.cc 15 = .ok (.iload_n 1, 1) := dk_T_clear_b0 (15, .iload_n 1, 1) (List.mem_of_getElem? (i := 8) rfl)
theorem dd_T_clear_16 : decode mt_T_clear.cc 16 = .ok (.iload_n 2, 1) := dk_T_clear_b0 (16, .iload_n 2, 1) (List.mem_of_getElem? (i := 9) rfl)
theorem dd_T_clear_17 : decode mt_T_clear.cc 17 = .ok (.iastore, 1) := dk_T_clear_b0 (17, .iastore, 1) (List.mem_of_getElem? (i := 10) rfl)
theorem dd_T_clear_18 : decode mt_T_clear.cc 18 = .ok (.aload_n 0, 1) := dk_T_clear_b0 (18, .aload_n 0, 1) (List.mem_of_getElem? (i := 11) rfl)
theorem dd_T_clear_19 : decode mt_T_clear.cc 19 = .ok (.getfield 24, 3) := dk_T_clear_b0 (19, .getfield 24, 3) (List.mem_of_getElem? (i := 12) rfl)
theorem dd_T_clear_22 : decode mt_T_clear.cc 22 = .ok (.iload_n 1, 1) := dk_T_clear_b0 (22, .iload_n 1, 1) (List.mem_of_getElem? (i := 13) rfl)
theorem dd_T_clear_23 : decode mt_T_clear.cc 23 = .ok (.invokevirtual 80, 3) := dk_T_clear_b0 (23, .invokevirtual 80, 3) (List.mem_of_getElem? (i := 14) rfl)
theorem dd_T_clear_26 : decode mt_T_clear.cc 26 = .ok (.return_, 1) := dk_T_clear_b0 (26, .return_, 1) (List.mem_of_getElem? (i := 15) rfl)
theorem cw_T_clear : gj_cw mt_T_clear ∈ tw_all := mw_342
theorem pl_T_clear : gj_plain mt_T_clear.y := ⟨by decide +kernel, by decide +kernel⟩
theorem pn_T_clear : plainName mt_T_clear.y.cls = true := by decide +kernel
theorem np_T_clear : gj_np mt_T_clear.y = some 2 := by decide +kernel
def mt_T_set : Mt := (⟨"TruthBench", "set", "(IJ)V"⟩, prog_1_method_6_code, 4, none, [])
def dl_T_set_b0 : List (Nat × Instr × Nat) := [(0, .iload_n 1, 1), (1, .bipush 7, 2), (3, .invokestatic 76, 3), (6, .aload_n 0, 1), (7, .getfield 17, 3), (10, .iload_n 1, 1), (11, .iaload, 1), (12, .lload_n 2, 1), (13, .invokestatic 83, 3), (16, .ifCond .ne 11, 3), (19, .new 87, 3), (22, .dup, 1), (23, .invokespecial 89, 3), (26, .athrow, 1), (27, .aload_n 0, 1), (28, .getfield 24, 3), (31, .iload_n 1, 1), (32, .aload_n 0, 1), (33, .getfield 17, 3), (36, .iload_n 1, 1), (37, .iaload, 1), (38, .lload_n 2, 1), (39, .invokevirtual 90, 3), (42, .return_, 1)]
set_option maxRecDepth 100000 in
theorem dk_T_set_b0 : ∀ q ∈ dl_T_set_b0, decode mt_T_set.cc q.1 = .ok (q.2.1, q.2.2) := by decide +kernel
theorem dd_T_set_0 : decode mt_T_set.cc 0 = .ok (.iload_n 1, 1) := dk_T_set_b0 (0, .iload_n 1, 1) (List.mem_of_getElem? (i := 0) rfl)
theorem dd_T_set_1 : decode mt_T_set.cc 1 = .ok (.bipush 7, 2) := dk_T_set_b0 (1, .bipush 7, 2) (List.mem_of_getElem? (i := 1) rfl)
theorem dd_T_set_3 : decode mt_T_set.cc 3 = .ok (.invokestatic 76, 3) := dk_T_set_b0 (3, .invokestatic 76, 3) (List.mem_of_getElem? (i := 2) rfl)
theorem dd_T_set_6 : decode mt_T_set.cc 6 = .ok (.aload_n 0, 1) := dk_T_set_b0 (6, .aload_n 0, 1) (List.mem_of_getElem? (i := 3) rfl)
theorem dd_T_set_7 : decode mt_T_set.cc 7 = .ok (.getfield 17, 3) := dk_T_set_b0 (7, .getfield 17, 3) (List.mem_of_getElem? (i := 4) rfl)
theorem dd_T_set_10 : decode mt_T_set.cc 10 = .ok (.iload_n 1, 1) := dk_T_set_b0 (10, .iload_n 1, 1) (List.mem_of_getElem? (i := 5) rfl)
theorem dd_T_set_11 : decode mt_T_set.cc 11 = .ok (.iaload, 1) := dk_T_set_b0 (11, .iaload, 1) (List.mem_of_getElem? (i := 6) rfl)
theorem dd_T_set_12 : decode mt_T_set.cc 12 = .ok (.lload_n 2, 1) := dk_T_set_b0 (12, .lload_n 2, 1) (List.mem_of_getElem? (i := 7) rfl)
theorem dd_T_set_13 : decode mt_T_set.cc 13 = .ok (.invokestatic 83, 3) := dk_T_set_b0 (13, .invokestatic 83, 3) (List.mem_of_getElem? (i := 8) rfl)
theorem dd_T_set_16 : decode mt_T_set.cc 16 = .ok (.ifCond .ne 11, 3) := dk_T_set_b0 (16, .ifCond .ne 11, 3) (List.mem_of_getElem? (i := 9) rfl)
theorem dd_T_set_19 : decode mt_T_set.cc 19 = .ok (.new 87, 3) := dk_T_set_b0 (19, .new 87, 3) (List.mem_of_getElem? (i := 10) rfl)
theorem dd_T_set_22 : decode mt_T_set.cc 22 = .ok (.dup, 1) := dk_T_set_b0 (22, .dup, 1) (List.mem_of_getElem? (i := 11) rfl)
theorem dd_T_set_23 : decode mt_T_set.cc 23 = .ok (.invokespecial 89, 3) := dk_T_set_b0 (23, .invokespecial 89, 3) (List.mem_of_getElem? (i := 12) rfl)
theorem dd_T_set_26 : decode mt_T_set.cc 26 = .ok (.athrow, 1) := dk_T_set_b0 (26, .athrow, 1) (List.mem_of_getElem? (i := 13) rfl)
theorem dd_T_set_27 : decode mt_T_set.cc 27 = .ok (.aload_n 0, 1) := dk_T_set_b0 (27, .aload_n 0, 1) (List.mem_of_getElem? (i := 14) rfl)
theorem dd_T_set_28 : decode mt_T_set.cc 28 = .ok (.getfield 24, 3) := dk_T_set_b0 (28, .getfield 24, 3) (List.mem_of_getElem? (i := 15) rfl)
theorem dd_T_set_31 : decode mt_T_set.cc 31 = .ok (.iload_n 1, 1) := dk_T_set_b0 (31, .iload_n 1, 1) (List.mem_of_getElem? (i := 16) rfl)
theorem dd_T_set_32 : decode mt_T_set.cc 32 = .ok (.aload_n 0, 1) := dk_T_set_b0 (32, .aload_n 0, 1) (List.mem_of_getElem? (i := 17) rfl)
theorem dd_T_set_33 : decode mt_T_set.cc 33 = .ok (.getfield 17, 3) := dk_T_set_b0 (33, .getfield 17, 3) (List.mem_of_getElem? (i := 18) rfl)
theorem dd_T_set_36 : decode mt_T_set.cc 36 = .ok (.iload_n 1, 1) := dk_T_set_b0 (36, .iload_n 1, 1) (List.mem_of_getElem? (i := 19) rfl)
theorem dd_T_set_37 : decode mt_T_set.cc 37 = .ok (.iaload, 1) := dk_T_set_b0 (37, .iaload, 1) (List.mem_of_getElem? (i := 20) rfl)
theorem dd_T_set_38 : decode mt_T_set.cc 38 = .ok (.lload_n 2, 1) := dk_T_set_b0 (38, .lload_n 2, 1) (List.mem_of_getElem? (i := 21) rfl)
theorem dd_T_set_39 : decode mt_T_set.cc 39 = .ok (.invokevirtual 90, 3) := dk_T_set_b0 (39, .invokevirtual 90, 3) (List.mem_of_getElem? (i := 22) rfl)
theorem dd_T_set_42 : decode mt_T_set.cc 42 = .ok (.return_, 1) := dk_T_set_b0 (42, .return_, 1) (List.mem_of_getElem? (i := 23) rfl)
theorem cw_T_set : gj_cw mt_T_set ∈ tw_all := mw_357
theorem pl_T_set : gj_plain mt_T_set.y := ⟨by decide +kernel, by decide +kernel⟩
theorem pn_T_set : plainName mt_T_set.y.cls = true := by decide +kernel
theorem np_T_set : gj_np mt_T_set.y = some 2 := by decide +kernel
def mt_T_fitsNumber : Mt := (⟨"TruthBench", "fitsNumber", "(IJ)Z"⟩, prog_1_method_17_code, 3, some .boolean, [])
def dl_T_fitsNumber_b0 : List (Nat × Instr × Nat) := [(0, .iload_n 0, 1), (1, .ifCond .ne 8, 3), (4, .lload_n 1, 1), (5, .invokestatic 154, 3), (8, .ireturn, 1), (9, .iload_n 0, 1), (10, .iconst 2, 1), (11, .if_icmp .ne 19, 3), (14, .lload_n 1, 1), (15, .lconst 0, 1), (16, .lcmp, 1), (17, .ifCond .eq 9, 3), (20, .lload_n 1, 1), (21, .lconst 1, 1), (22, .lcmp, 1), (23, .ifCond .ne 7, 3), (26, .iconst 1, 1), (27, .goto 4, 3), (30, .iconst 0, 1), (31, .ireturn, 1)]
set_option maxRecDepth 100000 in
theorem dk_T_fitsNumber_b0 : ∀ q ∈ dl_T_fitsNumber_b0, decode mt_T_fitsNumber.cc q.1 = .ok (q.2.1, q.2.2) := by decide +kernel
theorem dd_T_fitsNumber_0 : decode mt_T_fitsNumber.cc 0 = .ok (.iload_n 0, 1) := dk_T_fitsNumber_b0 (0, .iload_n 0, 1) (List.mem_of_getElem? (i := 0) rfl)
theorem dd_T_fitsNumber_1 : decode mt_T_fitsNumber.cc 1 = .ok (.ifCond .ne 8, 3) := dk_T_fitsNumber_b0 (1, .ifCond .ne 8, 3) (List.mem_of_getElem? (i := 1) rfl)
theorem dd_T_fitsNumber_4 : decode mt_T_fitsNumber.cc 4 = .ok (.lload_n 1, 1) := dk_T_fitsNumber_b0 (4, .lload_n 1, 1) (List.mem_of_getElem? (i := 2) rfl)
theorem dd_T_fitsNumber_5 : decode mt_T_fitsNumber.cc 5 = .ok (.invokestatic 154, 3) := dk_T_fitsNumber_b0 (5, .invokestatic 154, 3) (List.mem_of_getElem? (i := 3) rfl)
theorem dd_T_fitsNumber_8 : decode mt_T_fitsNumber.cc 8 = .ok (.ireturn, 1) := dk_T_fitsNumber_b0 (8, .ireturn, 1) (List.mem_of_getElem? (i := 4) rfl)
theorem dd_T_fitsNumber_9 : decode mt_T_fitsNumber.cc 9 = .ok (.iload_n 0, 1) := dk_T_fitsNumber_b0 (9, .iload_n 0, 1) (List.mem_of_getElem? (i := 5) rfl)
theorem dd_T_fitsNumber_10 : decode mt_T_fitsNumber.cc 10 = .ok (.iconst 2, 1) := dk_T_fitsNumber_b0 (10, .iconst 2, 1) (List.mem_of_getElem? (i := 6) rfl)
theorem dd_T_fitsNumber_11 : decode mt_T_fitsNumber.cc 11 = .ok (.if_icmp .ne 19, 3) := dk_T_fitsNumber_b0 (11, .if_icmp .ne 19, 3) (List.mem_of_getElem? (i := 7) rfl)
theorem dd_T_fitsNumber_14 : decode mt_T_fitsNumber.cc 14 = .ok (.lload_n 1, 1) := dk_T_fitsNumber_b0 (14, .lload_n 1, 1) (List.mem_of_getElem? (i := 8) rfl)
theorem dd_T_fitsNumber_15 : decode mt_T_fitsNumber.cc 15 = .ok (.lconst 0, 1) := dk_T_fitsNumber_b0 (15, .lconst 0, 1) (List.mem_of_getElem? (i := 9) rfl)
theorem dd_T_fitsNumber_16 : decode mt_T_fitsNumber.cc 16 = .ok (.lcmp, 1) := dk_T_fitsNumber_b0 (16, .lcmp, 1) (List.mem_of_getElem? (i := 10) rfl)
theorem dd_T_fitsNumber_17 : decode mt_T_fitsNumber.cc 17 = .ok (.ifCond .eq 9, 3) := dk_T_fitsNumber_b0 (17, .ifCond .eq 9, 3) (List.mem_of_getElem? (i := 11) rfl)
theorem dd_T_fitsNumber_20 : decode mt_T_fitsNumber.cc 20 = .ok (.lload_n 1, 1) := dk_T_fitsNumber_b0 (20, .lload_n 1, 1) (List.mem_of_getElem? (i := 12) rfl)
theorem dd_T_fitsNumber_21 : decode mt_T_fitsNumber.cc 21 = .ok (.lconst 1, 1) := dk_T_fitsNumber_b0 (21, .lconst 1, 1) (List.mem_of_getElem? (i := 13) rfl)
theorem dd_T_fitsNumber_22 : decode mt_T_fitsNumber.cc 22 = .ok (.lcmp, 1) := dk_T_fitsNumber_b0 (22, .lcmp, 1) (List.mem_of_getElem? (i := 14) rfl)
theorem dd_T_fitsNumber_23 : decode mt_T_fitsNumber.cc 23 = .ok (.ifCond .ne 7, 3) := dk_T_fitsNumber_b0 (23, .ifCond .ne 7, 3) (List.mem_of_getElem? (i := 15) rfl)
theorem dd_T_fitsNumber_26 : decode mt_T_fitsNumber.cc 26 = .ok (.iconst 1, 1) := dk_T_fitsNumber_b0 (26, .iconst 1, 1) (List.mem_of_getElem? (i := 16) rfl)
theorem dd_T_fitsNumber_27 : decode mt_T_fitsNumber.cc 27 = .ok (.goto 4, 3) := dk_T_fitsNumber_b0 (27, .goto 4, 3) (List.mem_of_getElem? (i := 17) rfl)
theorem dd_T_fitsNumber_30 : decode mt_T_fitsNumber.cc 30 = .ok (.iconst 0, 1) := dk_T_fitsNumber_b0 (30, .iconst 0, 1) (List.mem_of_getElem? (i := 18) rfl)
theorem dd_T_fitsNumber_31 : decode mt_T_fitsNumber.cc 31 = .ok (.ireturn, 1) := dk_T_fitsNumber_b0 (31, .ireturn, 1) (List.mem_of_getElem? (i := 19) rfl)
theorem cw_T_fitsNumber : gj_cw mt_T_fitsNumber ∈ tw_all := mw_360
theorem pl_T_fitsNumber : gj_plain mt_T_fitsNumber.y := ⟨by decide +kernel, by decide +kernel⟩
theorem pn_T_fitsNumber : plainName mt_T_fitsNumber.y.cls = true := by decide +kernel
theorem np_T_fitsNumber : gj_np mt_T_fitsNumber.y = some 2 := by decide +kernel
def mt_T_isInt : Mt := (⟨"TruthBench", "isInt", "(J)Z"⟩, prog_1_method_18_code, 2, some .boolean, [])
def dl_T_isInt_b0 : List (Nat × Instr × Nat) := [(0, .lload_n 0, 1), (1, .ldc2_w 158, 3), (4, .lcmp, 1), (5, .ifCond .lt 15, 3), (8, .lload_n 0, 1), (9, .ldc2_w 160, 3), (12, .lcmp, 1), (13, .ifCond .gt 7, 3), (16, .iconst 1, 1), (17, .goto 4, 3), (20, .iconst 0, 1), (21, .ireturn, 1)]
set_option maxRecDepth 100000 in
theorem dk_T_isInt_b0 : ∀ q ∈ dl_T_isInt_b0, decode mt_T_isInt.cc q.1 = .ok (q.2.1, q.2.2) := by decide +kernel
theorem dd_T_isInt_0 : decode mt_T_isInt.cc 0 = .ok (.lload_n 0, 1) := dk_T_isInt_b0 (0, .lload_n 0, 1) (List.mem_of_getElem? (i := 0) rfl)
theorem dd_T_isInt_1 : decode mt_T_isInt.cc 1 = .ok (.ldc2_w 158, 3) := dk_T_isInt_b0 (1, .ldc2_w 158, 3) (List.mem_of_getElem? (i := 1) rfl)
theorem dd_T_isInt_4 : decode mt_T_isInt.cc 4 = .ok (.lcmp, 1) := dk_T_isInt_b0 (4, .lcmp, 1) (List.mem_of_getElem? (i := 2) rfl)
theorem dd_T_isInt_5 : decode mt_T_isInt.cc 5 = .ok (.ifCond .lt 15, 3) := dk_T_isInt_b0 (5, .ifCond .lt 15, 3) (List.mem_of_getElem? (i := 3) rfl)
theorem dd_T_isInt_8 : decode mt_T_isInt.cc 8 = .ok (.lload_n 0, 1) := dk_T_isInt_b0 (8, .lload_n 0, 1) (List.mem_of_getElem? (i := 4) rfl)
theorem dd_T_isInt_9 : decode mt_T_isInt.cc 9 = .ok (.ldc2_w 160, 3) := dk_T_isInt_b0 (9, .ldc2_w 160, 3) (List.mem_of_getElem? (i := 5) rfl)
theorem dd_T_isInt_12 : decode mt_T_isInt.cc 12 = .ok (.lcmp, 1) := dk_T_isInt_b0 (12, .lcmp, 1) (List.mem_of_getElem? (i := 6) rfl)
theorem dd_T_isInt_13 : decode mt_T_isInt.cc 13 = .ok (.ifCond .gt 7, 3) := dk_T_isInt_b0 (13, .ifCond .gt 7, 3) (List.mem_of_getElem? (i := 7) rfl)
theorem dd_T_isInt_16 : decode mt_T_isInt.cc 16 = .ok (.iconst 1, 1) := dk_T_isInt_b0 (16, .iconst 1, 1) (List.mem_of_getElem? (i := 8) rfl)
theorem dd_T_isInt_17 : decode mt_T_isInt.cc 17 = .ok (.goto 4, 3) := dk_T_isInt_b0 (17, .goto 4, 3) (List.mem_of_getElem? (i := 9) rfl)
theorem dd_T_isInt_20 : decode mt_T_isInt.cc 20 = .ok (.iconst 0, 1) := dk_T_isInt_b0 (20, .iconst 0, 1) (List.mem_of_getElem? (i := 10) rfl)
theorem dd_T_isInt_21 : decode mt_T_isInt.cc 21 = .ok (.ireturn, 1) := dk_T_isInt_b0 (21, .ireturn, 1) (List.mem_of_getElem? (i := 11) rfl)
theorem cw_T_isInt : gj_cw mt_T_isInt ∈ tw_all := mw_363
theorem pl_T_isInt : gj_plain mt_T_isInt.y := ⟨by decide +kernel, by decide +kernel⟩
theorem pn_T_isInt : plainName mt_T_isInt.y.cls = true := by decide +kernel
theorem np_T_isInt : gj_np mt_T_isInt.y = some 1 := by decide +kernel
def mt_T_text : Mt := (⟨"TruthBench", "text", "(I)V"⟩, prog_1_method_7_code, 3, none, [])
def dl_T_text_b0 : List (Nat × Instr × Nat) := [(0, .aload_n 0, 1), (1, .getfield 13, 3), (4, .istore_n 2, 1), (5, .aload_n 0, 1), (6, .iconst 0, 1), (7, .putfield 13, 3), (10, .iload_n 1, 1), (11, .bipush 7, 2), (13, .invokestatic 76, 3), (16, .aload_n 0, 1), (17, .getfield 17, 3), (20, .iload_n 1, 1), (21, .iaload, 1), (22, .iconst 1, 1), (23, .if_icmp .ne 20, 3), (26, .iload_n 2, 1), (27, .bipush 40, 2), (29, .if_icmp .gt 14, 3), (32, .aload_n 0, 1), (33, .getfield 9, 3), (36, .iload_n 2, 1), (37, .invokestatic 94, 3), (40, .ifCond .ne 11, 3), (43, .new 87, 3), (46, .dup, 1), (47, .invokespecial 89, 3), (50, .athrow, 1), (51, .aload_n 0, 1), (52, .getfield 24, 3), (55, .iload_n 1, 1), (56, .aload_n 0, 1), (57, .getfield 9, 3), (60, .iconst 0, 1), (61, .iload_n 2, 1), (62, .invokevirtual 98, 3), (65, .return_, 1)]
set_option maxRecDepth 100000 in
theorem dk_T_text_b0 : ∀ q ∈ dl_T_text_b0, decode mt_T_text.cc q.1 = .ok (q.2.1, q.2.2) := by decide +kernel
theorem dd_T_text_0 : decode mt_T_text.cc 0 = .ok (.aload_n 0, 1) := dk_T_text_b0 (0, .aload_n 0, 1) (List.mem_of_getElem? (i := 0) rfl)
theorem dd_T_text_1 : decode mt_T_text.cc 1 = .ok (.getfield 13, 3) := dk_T_text_b0 (1, .getfield 13, 3) (List.mem_of_getElem? (i := 1) rfl)
theorem dd_T_text_4 : decode mt_T_text.cc 4 = .ok (.istore_n 2, 1) := dk_T_text_b0 (4, .istore_n 2, 1) (List.mem_of_getElem? (i := 2) rfl)
theorem dd_T_text_5 : decode mt_T_text.cc 5 = .ok (.aload_n 0, 1) := dk_T_text_b0 (5, .aload_n 0, 1) (List.mem_of_getElem? (i := 3) rfl)
theorem dd_T_text_6 : decode mt_T_text.cc 6 = .ok (.iconst 0, 1) := dk_T_text_b0 (6, .iconst 0, 1) (List.mem_of_getElem? (i := 4) rfl)
theorem dd_T_text_7 : decode mt_T_text.cc 7 = .ok (.putfield 13, 3) := dk_T_text_b0 (7, .putfield 13, 3) (List.mem_of_getElem? (i := 5) rfl)
theorem dd_T_text_10 : decode mt_T_text.cc 10 = .ok (.iload_n 1, 1) := dk_T_text_b0 (10, .iload_n 1, 1) (List.mem_of_getElem? (i := 6) rfl)
theorem dd_T_text_11 : decode mt_T_text.cc 11 = .ok (.bipush 7, 2) := dk_T_text_b0 (11, .bipush 7, 2) (List.mem_of_getElem? (i := 7) rfl)
theorem dd_T_text_13 : decode mt_T_text.cc 13 = .ok (.invokestatic 76, 3) := dk_T_text_b0 (13, .invokestatic 76, 3) (List.mem_of_getElem? (i := 8) rfl)
theorem dd_T_text_16 : decode mt_T_text.cc 16 = .ok (.aload_n 0, 1) := dk_T_text_b0 (16, .aload_n 0, 1) (List.mem_of_getElem? (i := 9) rfl)
theorem dd_T_text_17 : decode mt_T_text.cc 17 = .ok (.getfield 17, 3) := dk_T_text_b0 (17, .getfield 17, 3) (List.mem_of_getElem? (i := 10) rfl)
theorem dd_T_text_20 : decode mt_T_text.cc 20 = .ok (.iload_n 1, 1) := dk_T_text_b0 (20, .iload_n 1, 1) (List.mem_of_getElem? (i := 11) rfl)
theorem dd_T_text_21 : decode mt_T_text.cc 21 = .ok (.iaload, 1) := dk_T_text_b0 (21, .iaload, 1) (List.mem_of_getElem? (i := 12) rfl)
theorem dd_T_text_22 : decode mt_T_text.cc 22 = .ok (.iconst 1, 1) := dk_T_text_b0 (22, .iconst 1, 1) (List.mem_of_getElem? (i := 13) rfl)
theorem dd_T_text_23 : decode mt_T_text.cc 23 = .ok (.if_icmp .ne 20, 3) := dk_T_text_b0 (23, .if_icmp .ne 20, 3) (List.mem_of_getElem? (i := 14) rfl)
theorem dd_T_text_26 : decode mt_T_text.cc 26 = .ok (.iload_n 2, 1) := dk_T_text_b0 (26, .iload_n 2, 1) (List.mem_of_getElem? (i := 15) rfl)
theorem dd_T_text_27 : decode mt_T_text.cc 27 = .ok (.bipush 40, 2) := dk_T_text_b0 (27, .bipush 40, 2) (List.mem_of_getElem? (i := 16) rfl)
theorem dd_T_text_29 : decode mt_T_text.cc 29 = .ok (.if_icmp .gt 14, 3) := dk_T_text_b0 (29, .if_icmp .gt 14, 3) (List.mem_of_getElem? (i := 17) rfl)
theorem dd_T_text_32 : decode mt_T_text.cc 32 = .ok (.aload_n 0, 1) := dk_T_text_b0 (32, .aload_n 0, 1) (List.mem_of_getElem? (i := 18) rfl)
theorem dd_T_text_33 : decode mt_T_text.cc 33 = .ok (.getfield 9, 3) := dk_T_text_b0 (33, .getfield 9, 3) (List.mem_of_getElem? (i := 19) rfl)
theorem dd_T_text_36 : decode mt_T_text.cc 36 = .ok (.iload_n 2, 1) := dk_T_text_b0 (36, .iload_n 2, 1) (List.mem_of_getElem? (i := 20) rfl)
theorem dd_T_text_37 : decode mt_T_text.cc 37 = .ok (.invokestatic 94, 3) := dk_T_text_b0 (37, .invokestatic 94, 3) (List.mem_of_getElem? (i := 21) rfl)
theorem dd_T_text_40 : decode mt_T_text.cc 40 = .ok (.ifCond .ne 11, 3) := dk_T_text_b0 (40, .ifCond .ne 11, 3) (List.mem_of_getElem? (i := 22) rfl)
theorem dd_T_text_43 : decode mt_T_text.cc 43 = .ok (.new 87, 3) := dk_T_text_b0 (43, .new 87, 3) (List.mem_of_getElem? (i := 23) rfl)
theorem dd_T_text_46 : decode mt_T_text.cc 46 = .ok (.dup, 1) := dk_T_text_b0 (46, .dup, 1) (List.mem_of_getElem? (i := 24) rfl)
theorem dd_T_text_47 : decode mt_T_text.cc 47 = .ok (.invokespecial 89, 3) := dk_T_text_b0 (47, .invokespecial 89, 3) (List.mem_of_getElem? (i := 25) rfl)
theorem dd_T_text_50 : decode mt_T_text.cc 50 = .ok (.athrow, 1) := dk_T_text_b0 (50, .athrow, 1) (List.mem_of_getElem? (i := 26) rfl)
theorem dd_T_text_51 : decode mt_T_text.cc 51 = .ok (.aload_n 0, 1) := dk_T_text_b0 (51, .aload_n 0, 1) (List.mem_of_getElem? (i := 27) rfl)
theorem dd_T_text_52 : decode mt_T_text.cc 52 = .ok (.getfield 24, 3) := dk_T_text_b0 (52, .getfield 24, 3) (List.mem_of_getElem? (i := 28) rfl)
theorem dd_T_text_55 : decode mt_T_text.cc 55 = .ok (.iload_n 1, 1) := dk_T_text_b0 (55, .iload_n 1, 1) (List.mem_of_getElem? (i := 29) rfl)
theorem dd_T_text_56 : decode mt_T_text.cc 56 = .ok (.aload_n 0, 1) := dk_T_text_b0 (56, .aload_n 0, 1) (List.mem_of_getElem? (i := 30) rfl)
theorem dd_T_text_57 : decode mt_T_text.cc 57 = .ok (.getfield 9, 3) := dk_T_text_b0 (57, .getfield 9, 3) (List.mem_of_getElem? (i := 31) rfl)
theorem dd_T_text_60 : decode mt_T_text.cc 60 = .ok (.iconst 0, 1) := dk_T_text_b0 (60, .iconst 0, 1) (List.mem_of_getElem? (i := 32) rfl)
theorem dd_T_text_61 : decode mt_T_text.cc 61 = .ok (.iload_n 2, 1) := dk_T_text_b0 (61, .iload_n 2, 1) (List.mem_of_getElem? (i := 33) rfl)
theorem dd_T_text_62 : decode mt_T_text.cc 62 = .ok (.invokevirtual 98, 3) := dk_T_text_b0 (62, .invokevirtual 98, 3) (List.mem_of_getElem? (i := 34) rfl)
theorem dd_T_text_65 : decode mt_T_text.cc 65 = .ok (.return_, 1) := dk_T_text_b0 (65, .return_, 1) (List.mem_of_getElem? (i := 35) rfl)
theorem cw_T_text : gj_cw mt_T_text ∈ tw_all := mw_373
theorem pl_T_text : gj_plain mt_T_text.y := ⟨by decide +kernel, by decide +kernel⟩
theorem pn_T_text : plainName mt_T_text.y.cls = true := by decide +kernel
theorem np_T_text : gj_np mt_T_text.y = some 1 := by decide +kernel
def mt_T_areCharacters : Mt := (⟨"TruthBench", "areCharacters", "([BI)Z"⟩, prog_1_method_20_code, 3, some .boolean, [])
def dl_T_areCharacters_b0 : List (Nat × Instr × Nat) := [(0, .iconst 0, 1), (1, .istore_n 2, 1), (2, .iload_n 2, 1), (3, .iload_n 1, 1), (4, .if_icmp .ge 20, 3), (7, .aload_n 0, 1), (8, .iload_n 2, 1), (9, .baload, 1), (10, .invokestatic 162, 3), (13, .ifCond .ne 5, 3), (16, .iconst 0, 1), (17, .ireturn, 1), (18, .iinc 2 1, 3), (21, .goto (-19), 3), (24, .iconst 1, 1), (25, .ireturn, 1)]
set_option maxRecDepth 100000 in
theorem dk_T_areCharacters_b0 : ∀ q ∈ dl_T_areCharacters_b0, decode mt_T_areCharacters.cc q.1 = .ok (q.2.1, q.2.2) := by decide +kernel
theorem dd_T_areCharacters_0 : decode mt_T_areCharacters.cc 0 = .ok (.iconst 0, 1) := dk_T_areCharacters_b0 (0, .iconst 0, 1) (List.mem_of_getElem? (i := 0) rfl)
theorem dd_T_areCharacters_1 : decode mt_T_areCharacters.cc 1 = .ok (.istore_n 2, 1) := dk_T_areCharacters_b0 (1, .istore_n 2, 1) (List.mem_of_getElem? (i := 1) rfl)
theorem dd_T_areCharacters_2 : decode mt_T_areCharacters.cc 2 = .ok (.iload_n 2, 1) := dk_T_areCharacters_b0 (2, .iload_n 2, 1) (List.mem_of_getElem? (i := 2) rfl)
theorem dd_T_areCharacters_3 : decode mt_T_areCharacters.cc 3 = .ok (.iload_n 1, 1) := dk_T_areCharacters_b0 (3, .iload_n 1, 1) (List.mem_of_getElem? (i := 3) rfl)
theorem dd_T_areCharacters_4 : decode mt_T_areCharacters.cc 4 = .ok (.if_icmp .ge 20, 3) := dk_T_areCharacters_b0 (4, .if_icmp .ge 20, 3) (List.mem_of_getElem? (i := 4) rfl)
theorem dd_T_areCharacters_7 : decode mt_T_areCharacters.cc 7 = .ok (.aload_n 0, 1) := dk_T_areCharacters_b0 (7, .aload_n 0, 1) (List.mem_of_getElem? (i := 5) rfl)
theorem dd_T_areCharacters_8 : decode mt_T_areCharacters.cc 8 = .ok (.iload_n 2, 1) := dk_T_areCharacters_b0 (8, .iload_n 2, 1) (List.mem_of_getElem? (i := 6) rfl)
theorem dd_T_areCharacters_9 : decode mt_T_areCharacters.cc 9 = .ok (.baload, 1) := dk_T_areCharacters_b0 (9, .baload, 1) (List.mem_of_getElem? (i := 7) rfl)
theorem dd_T_areCharacters_10 : decode mt_T_areCharacters.cc 10 = .ok (.invokestatic 162, 3) := dk_T_areCharacters_b0 (10, .invokestatic 162, 3) (List.mem_of_getElem? (i := 8) rfl)
theorem dd_T_areCharacters_13 : decode mt_T_areCharacters.cc 13 = .ok (.ifCond .ne 5, 3) := dk_T_areCharacters_b0 (13, .ifCond .ne 5, 3) (List.mem_of_getElem? (i := 9) rfl)
theorem dd_T_areCharacters_16 : decode mt_T_areCharacters.cc 16 = .ok (.iconst 0, 1) := dk_T_areCharacters_b0 (16, .iconst 0, 1) (List.mem_of_getElem? (i := 10) rfl)
theorem dd_T_areCharacters_17 : decode mt_T_areCharacters.cc 17 = .ok (.ireturn, 1) := dk_T_areCharacters_b0 (17, .ireturn, 1) (List.mem_of_getElem? (i := 11) rfl)
theorem dd_T_areCharacters_18 : decode mt_T_areCharacters.cc 18 = .ok (.iinc 2 1, 3) := dk_T_areCharacters_b0 (18, .iinc 2 1, 3) (List.mem_of_getElem? (i := 12) rfl)
theorem dd_T_areCharacters_21 : decode mt_T_areCharacters.cc 21 = .ok (.goto (-19), 3) := dk_T_areCharacters_b0 (21, .goto (-19), 3) (List.mem_of_getElem? (i := 13) rfl)
theorem dd_T_areCharacters_24 : decode mt_T_areCharacters.cc 24 = .ok (.iconst 1, 1) := dk_T_areCharacters_b0 (24, .iconst 1, 1) (List.mem_of_getElem? (i := 14) rfl)
theorem dd_T_areCharacters_25 : decode mt_T_areCharacters.cc 25 = .ok (.ireturn, 1) := dk_T_areCharacters_b0 (25, .ireturn, 1) (List.mem_of_getElem? (i := 15) rfl)
theorem cw_T_areCharacters : gj_cw mt_T_areCharacters ∈ tw_all := mw_376
theorem pl_T_areCharacters : gj_plain mt_T_areCharacters.y := ⟨by decide +kernel, by decide +kernel⟩
theorem pn_T_areCharacters : plainName mt_T_areCharacters.y.cls = true := by decide +kernel
theorem np_T_areCharacters : gj_np mt_T_areCharacters.y = some 2 := by decide +kernel
def mt_T_isCharacter : Mt := (⟨"TruthBench", "isCharacter", "(B)Z"⟩, prog_1_method_19_code, 1, some .boolean, [])
def dl_T_isCharacter_b0 : List (Nat × Instr × Nat) := [(0, .iload_n 0, 1), (1, .bipush 32, 2), (3, .if_icmp .lt 13, 3), (6, .iload_n 0, 1), (7, .bipush 126, 2), (9, .if_icmp .gt 7, 3), (12, .iconst 1, 1), (13, .goto 4, 3), (16, .iconst 0, 1), (17, .ireturn, 1)]
set_option maxRecDepth 100000 in
theorem dk_T_isCharacter_b0 : ∀ q ∈ dl_T_isCharacter_b0, decode mt_T_isCharacter.cc q.1 = .ok (q.2.1, q.2.2) := by decide +kernel
theorem dd_T_isCharacter_0 : decode mt_T_isCharacter.cc 0 = .ok (.iload_n 0, 1) := dk_T_isCharacter_b0 (0, .iload_n 0, 1) (List.mem_of_getElem? (i := 0) rfl)
theorem dd_T_isCharacter_1 : decode mt_T_isCharacter.cc 1 = .ok (.bipush 32, 2) := dk_T_isCharacter_b0 (1, .bipush 32, 2) (List.mem_of_getElem? (i := 1) rfl)
theorem dd_T_isCharacter_3 : decode mt_T_isCharacter.cc 3 = .ok (.if_icmp .lt 13, 3) := dk_T_isCharacter_b0 (3, .if_icmp .lt 13, 3) (List.mem_of_getElem? (i := 2) rfl)
theorem dd_T_isCharacter_6 : decode mt_T_isCharacter.cc 6 = .ok (.iload_n 0, 1) := dk_T_isCharacter_b0 (6, .iload_n 0, 1) (List.mem_of_getElem? (i := 3) rfl)
theorem dd_T_isCharacter_7 : decode mt_T_isCharacter.cc 7 = .ok (.bipush 126, 2) := dk_T_isCharacter_b0 (7, .bipush 126, 2) (List.mem_of_getElem? (i := 4) rfl)
theorem dd_T_isCharacter_9 : decode mt_T_isCharacter.cc 9 = .ok (.if_icmp .gt 7, 3) := dk_T_isCharacter_b0 (9, .if_icmp .gt 7, 3) (List.mem_of_getElem? (i := 5) rfl)
theorem dd_T_isCharacter_12 : decode mt_T_isCharacter.cc 12 = .ok (.iconst 1, 1) := dk_T_isCharacter_b0 (12, .iconst 1, 1) (List.mem_of_getElem? (i := 6) rfl)
theorem dd_T_isCharacter_13 : decode mt_T_isCharacter.cc 13 = .ok (.goto 4, 3) := dk_T_isCharacter_b0 (13, .goto 4, 3) (List.mem_of_getElem? (i := 7) rfl)
theorem dd_T_isCharacter_16 : decode mt_T_isCharacter.cc 16 = .ok (.iconst 0, 1) := dk_T_isCharacter_b0 (16, .iconst 0, 1) (List.mem_of_getElem? (i := 8) rfl)
theorem dd_T_isCharacter_17 : decode mt_T_isCharacter.cc 17 = .ok (.ireturn, 1) := dk_T_isCharacter_b0 (17, .ireturn, 1) (List.mem_of_getElem? (i := 9) rfl)
theorem cw_T_isCharacter : gj_cw mt_T_isCharacter ∈ tw_all := mw_379
theorem pl_T_isCharacter : gj_plain mt_T_isCharacter.y := ⟨by decide +kernel, by decide +kernel⟩
theorem pn_T_isCharacter : plainName mt_T_isCharacter.y.cls = true := by decide +kernel
theorem np_T_isCharacter : gj_np mt_T_isCharacter.y = some 1 := by decide +kernel
def mt_T_read : Mt := (⟨"TruthBench", "read", "()I"⟩, prog_1_method_8_code, 3, some .int, [])
def dl_T_read_b0 : List (Nat × Instr × Nat) := [(0, .aload_n 0, 1), (1, .getfield 13, 3), (4, .istore_n 1, 1), (5, .aload_n 0, 1), (6, .iconst 0, 1), (7, .putfield 13, 3), (10, .aload_n 0, 1), (11, .aload_n 0, 1), (12, .getfield 43, 3), (15, .iload_n 1, 1), (16, .aload_n 0, 1), (17, .getfield 35, 3), (20, .invokevirtual 102, 3), (23, .putfield 63, 3), (26, .aload_n 0, 1), (27, .getfield 63, 3), (30, .iconst (-1), 1), (31, .if_icmp .eq 11, 3), (34, .new 106, 3), (37, .dup, 1), (38, .invokespecial 108, 3), (41, .athrow, 1), (42, .aload_n 0, 1), (43, .getfield 31, 3), (46, .astore_n 2, 1), (47, .aload_n 0, 1), (48, .aload_n 0, 1), (49, .getfield 35, 3), (52, .putfield 31, 3), (55, .aload_n 0, 1), (56, .aload_n 2, 1), (57, .putfield 35, 3), (60, .iload_n 1, 1), (61, .ireturn, 1)]
set_option maxRecDepth 100000 in
theorem dk_T_read_b0 : ∀ q ∈ dl_T_read_b0, decode mt_T_read.cc q.1 = .ok (q.2.1, q.2.2) := by decide +kernel
theorem dd_T_read_0 : decode mt_T_read.cc 0 = .ok (.aload_n 0, 1) := dk_T_read_b0 (0, .aload_n 0, 1) (List.mem_of_getElem? (i := 0) rfl)
theorem dd_T_read_1 : decode mt_T_read.cc 1 = .ok (.getfield 13, 3) := dk_T_read_b0 (1, .getfield 13, 3) (List.mem_of_getElem? (i := 1) rfl)
theorem dd_T_read_4 : decode mt_T_read.cc 4 = .ok (.istore_n 1, 1) := dk_T_read_b0 (4, .istore_n 1, 1) (List.mem_of_getElem? (i := 2) rfl)
theorem dd_T_read_5 : decode mt_T_read.cc 5 = .ok (.aload_n 0, 1) := dk_T_read_b0 (5, .aload_n 0, 1) (List.mem_of_getElem? (i := 3) rfl)
theorem dd_T_read_6 : decode mt_T_read.cc 6 = .ok (.iconst 0, 1) := dk_T_read_b0 (6, .iconst 0, 1) (List.mem_of_getElem? (i := 4) rfl)
theorem dd_T_read_7 : decode mt_T_read.cc 7 = .ok (.putfield 13, 3) := dk_T_read_b0 (7, .putfield 13, 3) (List.mem_of_getElem? (i := 5) rfl)
theorem dd_T_read_10 : decode mt_T_read.cc 10 = .ok (.aload_n 0, 1) := dk_T_read_b0 (10, .aload_n 0, 1) (List.mem_of_getElem? (i := 6) rfl)
theorem dd_T_read_11 : decode mt_T_read.cc 11 = .ok (.aload_n 0, 1) := dk_T_read_b0 (11, .aload_n 0, 1) (List.mem_of_getElem? (i := 7) rfl)
theorem dd_T_read_12 : decode mt_T_read.cc 12 = .ok (.getfield 43, 3) := dk_T_read_b0 (12, .getfield 43, 3) (List.mem_of_getElem? (i := 8) rfl)
theorem dd_T_read_15 : decode mt_T_read.cc 15 = .ok (.iload_n 1, 1) := dk_T_read_b0 (15, .iload_n 1, 1) (List.mem_of_getElem? (i := 9) rfl)
theorem dd_T_read_16 : decode mt_T_read.cc 16 = .ok (.aload_n 0, 1) := dk_T_read_b0 (16, .aload_n 0, 1) (List.mem_of_getElem? (i := 10) rfl)
theorem dd_T_read_17 : decode mt_T_read.cc 17 = .ok (.getfield 35, 3) := dk_T_read_b0 (17, .getfield 35, 3) (List.mem_of_getElem? (i := 11) rfl)
theorem dd_T_read_20 : decode mt_T_read.cc 20 = .ok (.invokevirtual 102, 3) := dk_T_read_b0 (20, .invokevirtual 102, 3) (List.mem_of_getElem? (i := 12) rfl)
theorem dd_T_read_23 : decode mt_T_read.cc 23 = .ok (.putfield 63, 3) := dk_T_read_b0 (23, .putfield 63, 3) (List.mem_of_getElem? (i := 13) rfl)
theorem dd_T_read_26 : decode mt_T_read.cc 26 = .ok (.aload_n 0, 1) := dk_T_read_b0 (26, .aload_n 0, 1) (List.mem_of_getElem? (i := 14) rfl)
theorem dd_T_read_27 : decode mt_T_read.cc 27 = .ok (.getfield 63, 3) := dk_T_read_b0 (27, .getfield 63, 3) (List.mem_of_getElem? (i := 15) rfl)
theorem dd_T_read_30 : decode mt_T_read.cc 30 = .ok (.iconst (-1), 1) := dk_T_read_b0 (30, .iconst (-1), 1) (List.mem_of_getElem? (i := 16) rfl)
theorem dd_T_read_31 : decode mt_T_read.cc 31 = .ok (.if_icmp .eq 11, 3) := dk_T_read_b0 (31, .if_icmp .eq 11, 3) (List.mem_of_getElem? (i := 17) rfl)
theorem dd_T_read_34 : decode mt_T_read.cc 34 = .ok (.new 106, 3) := dk_T_read_b0 (34, .new 106, 3) (List.mem_of_getElem? (i := 18) rfl)
theorem dd_T_read_37 : decode mt_T_read.cc 37 = .ok (.dup, 1) := dk_T_read_b0 (37, .dup, 1) (List.mem_of_getElem? (i := 19) rfl)
theorem dd_T_read_38 : decode mt_T_read.cc 38 = .ok (.invokespecial 108, 3) := dk_T_read_b0 (38, .invokespecial 108, 3) (List.mem_of_getElem? (i := 20) rfl)
theorem dd_T_read_41 : decode mt_T_read.cc 41 = .ok (.athrow, 1) := dk_T_read_b0 (41, .athrow, 1) (List.mem_of_getElem? (i := 21) rfl)
theorem dd_T_read_42 : decode mt_T_read.cc 42 = .ok (.aload_n 0, 1) := dk_T_read_b0 (42, .aload_n 0, 1) (List.mem_of_getElem? (i := 22) rfl)
theorem dd_T_read_43 : decode mt_T_read.cc 43 = .ok (.getfield 31, 3) := dk_T_read_b0 (43, .getfield 31, 3) (List.mem_of_getElem? (i := 23) rfl)
theorem dd_T_read_46 : decode mt_T_read.cc 46 = .ok (.astore_n 2, 1) := dk_T_read_b0 (46, .astore_n 2, 1) (List.mem_of_getElem? (i := 24) rfl)
theorem dd_T_read_47 : decode mt_T_read.cc 47 = .ok (.aload_n 0, 1) := dk_T_read_b0 (47, .aload_n 0, 1) (List.mem_of_getElem? (i := 25) rfl)
theorem dd_T_read_48 : decode mt_T_read.cc 48 = .ok (.aload_n 0, 1) := dk_T_read_b0 (48, .aload_n 0, 1) (List.mem_of_getElem? (i := 26) rfl)
theorem dd_T_read_49 : decode mt_T_read.cc 49 = .ok (.getfield 35, 3) := dk_T_read_b0 (49, .getfield 35, 3) (List.mem_of_getElem? (i := 27) rfl)
theorem dd_T_read_52 : decode mt_T_read.cc 52 = .ok (.putfield 31, 3) := dk_T_read_b0 (52, .putfield 31, 3) (List.mem_of_getElem? (i := 28) rfl)
theorem dd_T_read_55 : decode mt_T_read.cc 55 = .ok (.aload_n 0, 1) := dk_T_read_b0 (55, .aload_n 0, 1) (List.mem_of_getElem? (i := 29) rfl)
theorem dd_T_read_56 : decode mt_T_read.cc 56 = .ok (.aload_n 2, 1) := dk_T_read_b0 (56, .aload_n 2, 1) (List.mem_of_getElem? (i := 30) rfl)
theorem dd_T_read_57 : decode mt_T_read.cc 57 = .ok (.putfield 35, 3) := dk_T_read_b0 (57, .putfield 35, 3) (List.mem_of_getElem? (i := 31) rfl)
theorem dd_T_read_60 : decode mt_T_read.cc 60 = .ok (.iload_n 1, 1) := dk_T_read_b0 (60, .iload_n 1, 1) (List.mem_of_getElem? (i := 32) rfl)
theorem dd_T_read_61 : decode mt_T_read.cc 61 = .ok (.ireturn, 1) := dk_T_read_b0 (61, .ireturn, 1) (List.mem_of_getElem? (i := 33) rfl)
theorem cw_T_read : gj_cw mt_T_read ∈ tw_all := mw_397
theorem pl_T_read : gj_plain mt_T_read.y := ⟨by decide +kernel, by decide +kernel⟩
theorem pn_T_read : plainName mt_T_read.y.cls = true := by decide +kernel
theorem np_T_read : gj_np mt_T_read.y = some 0 := by decide +kernel
def mt_T_isWord : Mt := (⟨"TruthBench", "isWord", "([BIILjava/lang/String;)Z"⟩, prog_1_method_23_code, 5, some .boolean, [])
def dl_T_isWord_b0 : List (Nat × Instr × Nat) := [(0, .aload_n 3, 1), (1, .invokevirtual 166, 3), (4, .iload_n 2, 1), (5, .iload_n 1, 1), (6, .isub, 1), (7, .if_icmp .eq 5, 3), (10, .iconst 0, 1), (11, .ireturn, 1), (12, .iconst 0, 1), (13, .istore 4, 2), (15, .iload 4, 2), (17, .aload_n 3, 1), (18, .invokevirtual 166, 3), (21, .if_icmp .ge 29, 3), (24, .aload_n 0, 1), (25, .iload_n 1, 1), (26, .iload 4, 2), (28, .iadd, 1), (29, .baload, 1), (30, .invokestatic 170, 3), (33, .aload_n 3, 1), (34, .iload 4, 2), (36, .invokevirtual 174, 3), (39, .if_icmp .eq 5, 3), (42, .iconst 0, 1), (43, .ireturn, 1), (44, .iinc 4 1, 3), (47, .goto (-32), 3), (50, .iconst 1, 1), (51, .ireturn, 1)]
set_option maxRecDepth 100000 in
theorem dk_T_isWord_b0 : ∀ q ∈ dl_T_isWord_b0, decode mt_T_isWord.cc q.1 = .ok (q.2.1, q.2.2) := by decide +kernel
theorem dd_T_isWord_0 : decode mt_T_isWord.cc 0 = .ok (.aload_n 3, 1) := dk_T_isWord_b0 (0, .aload_n 3, 1) (List.mem_of_getElem? (i := 0) rfl)
theorem dd_T_isWord_1 : decode mt_T_isWord.cc 1 = .ok (.invokevirtual 166, 3) := dk_T_isWord_b0 (1, .invokevirtual 166, 3) (List.mem_of_getElem? (i := 1) rfl)
theorem dd_T_isWord_4 : decode mt_T_isWord.cc 4 = .ok (.iload_n 2, 1) := dk_T_isWord_b0 (4, .iload_n 2, 1) (List.mem_of_getElem? (i := 2) rfl)
theorem dd_T_isWord_5 : decode mt_T_isWord.cc 5 = .ok (.iload_n 1, 1) := dk_T_isWord_b0 (5, .iload_n 1, 1) (List.mem_of_getElem? (i := 3) rfl)
theorem dd_T_isWord_6 : decode mt_T_isWord.cc 6 = .ok (.isub, 1) := dk_T_isWord_b0 (6, .isub, 1) (List.mem_of_getElem? (i := 4) rfl)
theorem dd_T_isWord_7 : decode mt_T_isWord.cc 7 = .ok (.if_icmp .eq 5, 3) := dk_T_isWord_b0 (7, .if_icmp .eq 5, 3) (List.mem_of_getElem? (i := 5) rfl)
theorem dd_T_isWord_10 : decode mt_T_isWord.cc 10 = .ok (.iconst 0, 1) := dk_T_isWord_b0 (10, .iconst 0, 1) (List.mem_of_getElem? (i := 6) rfl)
theorem dd_T_isWord_11 : decode mt_T_isWord.cc 11 = .ok (.ireturn, 1) := dk_T_isWord_b0 (11, .ireturn, 1) (List.mem_of_getElem? (i := 7) rfl)
theorem dd_T_isWord_12 : decode mt_T_isWord.cc 12 = .ok (.iconst 0, 1) := dk_T_isWord_b0 (12, .iconst 0, 1) (List.mem_of_getElem? (i := 8) rfl)
theorem dd_T_isWord_13 : decode mt_T_isWord.cc 13 = .ok (.istore 4, 2) := dk_T_isWord_b0 (13, .istore 4, 2) (List.mem_of_getElem? (i := 9) rfl)
theorem dd_T_isWord_15 : decode mt_T_isWord.cc 15 = .ok (.iload 4, 2) := dk_T_isWord_b0 (15, .iload 4, 2) (List.mem_of_getElem? (i := 10) rfl)
theorem dd_T_isWord_17 : decode mt_T_isWord.cc 17 = .ok (.aload_n 3, 1) := dk_T_isWord_b0 (17, .aload_n 3, 1) (List.mem_of_getElem? (i := 11) rfl)
theorem dd_T_isWord_18 : decode mt_T_isWord.cc 18 = .ok (.invokevirtual 166, 3) := dk_T_isWord_b0 (18, .invokevirtual 166, 3) (List.mem_of_getElem? (i := 12) rfl)
theorem dd_T_isWord_21 : decode mt_T_isWord.cc 21 = .ok (.if_icmp .ge 29, 3) := dk_T_isWord_b0 (21, .if_icmp .ge 29, 3) (List.mem_of_getElem? (i := 13) rfl)
theorem dd_T_isWord_24 : decode mt_T_isWord.cc 24 = .ok (.aload_n 0, 1) := dk_T_isWord_b0 (24, .aload_n 0, 1) (List.mem_of_getElem? (i := 14) rfl)
theorem dd_T_isWord_25 : decode mt_T_isWord.cc 25 = .ok (.iload_n 1, 1) := dk_T_isWord_b0 (25, .iload_n 1, 1) (List.mem_of_getElem? (i := 15) rfl)
theorem dd_T_isWord_26 : decode mt_T_isWord.cc 26 = .ok (.iload 4, 2) := dk_T_isWord_b0 (26, .iload 4, 2) (List.mem_of_getElem? (i := 16) rfl)
theorem dd_T_isWord_28 : decode mt_T_isWord.cc 28 = .ok (.iadd, 1) := dk_T_isWord_b0 (28, .iadd, 1) (List.mem_of_getElem? (i := 17) rfl)
theorem dd_T_isWord_29 : decode mt_T_isWord.cc 29 = .ok (.baload, 1) := dk_T_isWord_b0 (29, .baload, 1) (List.mem_of_getElem? (i := 18) rfl)
theorem dd_T_isWord_30 : decode mt_T_isWord.cc 30 = .ok (.invokestatic 170, 3) := dk_T_isWord_b0 (30, .invokestatic 170, 3) (List.mem_of_getElem? (i := 19) rfl)
theorem dd_T_isWord_33 : decode mt_T_isWord.cc 33 = .ok (.aload_n 3, 1) := dk_T_isWord_b0 (33, .aload_n 3, 1) (List.mem_of_getElem? (i := 20) rfl)
theorem dd_T_isWord_34 : decode mt_T_isWord.cc 34 = .ok (.iload 4, 2) := dk_T_isWord_b0 (34, .iload 4, 2) (List.mem_of_getElem? (i := 21) rfl)
theorem dd_T_isWord_36 : decode mt_T_isWord.cc 36 = .ok (.invokevirtual 174, 3) := dk_T_isWord_b0 (36, .invokevirtual 174, 3) (List.mem_of_getElem? (i := 22) rfl)
theorem dd_T_isWord_39 : decode mt_T_isWord.cc 39 = .ok (.if_icmp .eq 5, 3) := dk_T_isWord_b0 (39, .if_icmp .eq 5, 3) (List.mem_of_getElem? (i := 23) rfl)
theorem dd_T_isWord_42 : decode mt_T_isWord.cc 42 = .ok (.iconst 0, 1) := dk_T_isWord_b0 (42, .iconst 0, 1) (List.mem_of_getElem? (i := 24) rfl)
theorem dd_T_isWord_43 : decode mt_T_isWord.cc 43 = .ok (.ireturn, 1) := dk_T_isWord_b0 (43, .ireturn, 1) (List.mem_of_getElem? (i := 25) rfl)
theorem dd_T_isWord_44 : decode mt_T_isWord.cc 44 = .ok (.iinc 4 1, 3) := dk_T_isWord_b0 (44, .iinc 4 1, 3) (List.mem_of_getElem? (i := 26) rfl)
theorem dd_T_isWord_47 : decode mt_T_isWord.cc 47 = .ok (.goto (-32), 3) := dk_T_isWord_b0 (47, .goto (-32), 3) (List.mem_of_getElem? (i := 27) rfl)
theorem dd_T_isWord_50 : decode mt_T_isWord.cc 50 = .ok (.iconst 1, 1) := dk_T_isWord_b0 (50, .iconst 1, 1) (List.mem_of_getElem? (i := 28) rfl)
theorem dd_T_isWord_51 : decode mt_T_isWord.cc 51 = .ok (.ireturn, 1) := dk_T_isWord_b0 (51, .ireturn, 1) (List.mem_of_getElem? (i := 29) rfl)
theorem cw_T_isWord : gj_cw mt_T_isWord ∈ tw_all := mw_445
theorem pl_T_isWord : gj_plain mt_T_isWord.y := ⟨by decide +kernel, by decide +kernel⟩
theorem pn_T_isWord : plainName mt_T_isWord.y.cls = true := by decide +kernel
theorem np_T_isWord : gj_np mt_T_isWord.y = some 4 := by decide +kernel
def mt_T_lowered : Mt := (⟨"TruthBench", "lowered", "(I)I"⟩, prog_1_method_21_code, 1, some .int, [])
def dl_T_lowered_b0 : List (Nat × Instr × Nat) := [(0, .iload_n 0, 1), (1, .bipush 65, 2), (3, .if_icmp .lt 16, 3), (6, .iload_n 0, 1), (7, .bipush 90, 2), (9, .if_icmp .gt 10, 3), (12, .iload_n 0, 1), (13, .bipush 32, 2), (15, .iadd, 1), (16, .goto 4, 3), (19, .iload_n 0, 1), (20, .ireturn, 1)]
set_option maxRecDepth 100000 in
theorem dk_T_lowered_b0 : ∀ q ∈ dl_T_lowered_b0, decode mt_T_lowered.cc q.1 = .ok (q.2.1, q.2.2) := by decide +kernel
theorem dd_T_lowered_0 : decode mt_T_lowered.cc 0 = .ok (.iload_n 0, 1) := dk_T_lowered_b0 (0, .iload_n 0, 1) (List.mem_of_getElem? (i := 0) rfl)
theorem dd_T_lowered_1 : decode mt_T_lowered.cc 1 = .ok (.bipush 65, 2) := dk_T_lowered_b0 (1, .bipush 65, 2) (List.mem_of_getElem? (i := 1) rfl)
theorem dd_T_lowered_3 : decode mt_T_lowered.cc 3 = .ok (.if_icmp .lt 16, 3) := dk_T_lowered_b0 (3, .if_icmp .lt 16, 3) (List.mem_of_getElem? (i := 2) rfl)
theorem dd_T_lowered_6 : decode mt_T_lowered.cc 6 = .ok (.iload_n 0, 1) := dk_T_lowered_b0 (6, .iload_n 0, 1) (List.mem_of_getElem? (i := 3) rfl)
theorem dd_T_lowered_7 : decode mt_T_lowered.cc 7 = .ok (.bipush 90, 2) := dk_T_lowered_b0 (7, .bipush 90, 2) (List.mem_of_getElem? (i := 4) rfl)
theorem dd_T_lowered_9 : decode mt_T_lowered.cc 9 = .ok (.if_icmp .gt 10, 3) := dk_T_lowered_b0 (9, .if_icmp .gt 10, 3) (List.mem_of_getElem? (i := 5) rfl)
theorem dd_T_lowered_12 : decode mt_T_lowered.cc 12 = .ok (.iload_n 0, 1) := dk_T_lowered_b0 (12, .iload_n 0, 1) (List.mem_of_getElem? (i := 6) rfl)
theorem dd_T_lowered_13 : decode mt_T_lowered.cc 13 = .ok (.bipush 32, 2) := dk_T_lowered_b0 (13, .bipush 32, 2) (List.mem_of_getElem? (i := 7) rfl)
theorem dd_T_lowered_15 : decode mt_T_lowered.cc 15 = .ok (.iadd, 1) := dk_T_lowered_b0 (15, .iadd, 1) (List.mem_of_getElem? (i := 8) rfl)
theorem dd_T_lowered_16 : decode mt_T_lowered.cc 16 = .ok (.goto 4, 3) := dk_T_lowered_b0 (16, .goto 4, 3) (List.mem_of_getElem? (i := 9) rfl)
theorem dd_T_lowered_19 : decode mt_T_lowered.cc 19 = .ok (.iload_n 0, 1) := dk_T_lowered_b0 (19, .iload_n 0, 1) (List.mem_of_getElem? (i := 10) rfl)
theorem dd_T_lowered_20 : decode mt_T_lowered.cc 20 = .ok (.ireturn, 1) := dk_T_lowered_b0 (20, .ireturn, 1) (List.mem_of_getElem? (i := 11) rfl)
theorem cw_T_lowered : gj_cw mt_T_lowered ∈ tw_all := mw_458
theorem pl_T_lowered : gj_plain mt_T_lowered.y := ⟨by decide +kernel, by decide +kernel⟩
theorem pn_T_lowered : plainName mt_T_lowered.y.cls = true := by decide +kernel
theorem np_T_lowered : gj_np mt_T_lowered.y = some 1 := by decide +kernel
def mt_T_kind : Mt := (⟨"TruthBench", "kind", "()I"⟩, prog_1_method_9_code, 1, some .int, [])
def dl_T_kind_b0 : List (Nat × Instr × Nat) := [(0, .aload_n 0, 1), (1, .invokevirtual 109, 3), (4, .ireturn, 1)]
set_option maxRecDepth 100000 in
theorem dk_T_kind_b0 : ∀ q ∈ dl_T_kind_b0, decode mt_T_kind.cc q.1 = .ok (q.2.1, q.2.2) := by decide +kernel
theorem dd_T_kind_0 : decode mt_T_kind.cc 0 = .ok (.aload_n 0, 1) := dk_T_kind_b0 (0, .aload_n 0, 1) (List.mem_of_getElem? (i := 0) rfl)
theorem dd_T_kind_1 : decode mt_T_kind.cc 1 = .ok (.invokevirtual 109, 3) := dk_T_kind_b0 (1, .invokevirtual 109, 3) (List.mem_of_getElem? (i := 1) rfl)
theorem dd_T_kind_4 : decode mt_T_kind.cc 4 = .ok (.ireturn, 1) := dk_T_kind_b0 (4, .ireturn, 1) (List.mem_of_getElem? (i := 2) rfl)
theorem cw_T_kind : gj_cw mt_T_kind ∈ tw_all := mw_802
theorem pl_T_kind : gj_plain mt_T_kind.y := ⟨by decide +kernel, by decide +kernel⟩
theorem pn_T_kind : plainName mt_T_kind.y.cls = true := by decide +kernel
theorem np_T_kind : gj_np mt_T_kind.y = some 0 := by decide +kernel
def mt_T_checkedKind : Mt := (⟨"TruthBench", "checkedKind", "()I"⟩, prog_1_method_15_code, 1, some .int, [])
def dl_T_checkedKind_b0 : List (Nat × Instr × Nat) := [(0, .aload_n 0, 1), (1, .getfield 31, 3), (4, .getfield 138, 3), (7, .ifCond .ne 11, 3), (10, .new 141, 3), (13, .dup, 1), (14, .invokespecial 143, 3), (17, .athrow, 1), (18, .aload_n 0, 1), (19, .aload_n 0, 1), (20, .getfield 50, 3), (23, .aload_n 0, 1), (24, .getfield 31, 3), (27, .aload_n 0, 1), (28, .getfield 17, 3), (31, .invokevirtual 144, 3), (34, .invokevirtual 117, 3), (37, .aload_n 0, 1), (38, .getfield 50, 3), (41, .getfield 148, 3), (44, .ireturn, 1)]
set_option maxRecDepth 100000 in
theorem dk_T_checkedKind_b0 : ∀ q ∈ dl_T_checkedKind_b0, decode mt_T_checkedKind.cc q.1 = .ok (q.2.1, q.2.2) := by decide +kernel
theorem dd_T_checkedKind_0 : decode mt_T_checkedKind.cc 0 = .ok (.aload_n 0, 1) := dk_T_checkedKind_b0 (0, .aload_n 0, 1) (List.mem_of_getElem? (i := 0) rfl)
theorem dd_T_checkedKind_1 : decode mt_T_checkedKind.cc 1 = .ok (.getfield 31, 3) := dk_T_checkedKind_b0 (1, .getfield 31, 3) (List.mem_of_getElem? (i := 1) rfl)
theorem dd_T_checkedKind_4 : decode mt_T_checkedKind.cc 4 = .ok (.getfield 138, 3) := dk_T_checkedKind_b0 (4, .getfield 138, 3) (List.mem_of_getElem? (i := 2) rfl)
theorem dd_T_checkedKind_7 : decode mt_T_checkedKind.cc 7 = .ok (.ifCond .ne 11, 3) := dk_T_checkedKind_b0 (7, .ifCond .ne 11, 3) (List.mem_of_getElem? (i := 3) rfl)
theorem dd_T_checkedKind_10 : decode mt_T_checkedKind.cc 10 = .ok (.new 141, 3) := dk_T_checkedKind_b0 (10, .new 141, 3) (List.mem_of_getElem? (i := 4) rfl)
theorem dd_T_checkedKind_13 : decode mt_T_checkedKind.cc 13 = .ok (.dup, 1) := dk_T_checkedKind_b0 (13, .dup, 1) (List.mem_of_getElem? (i := 5) rfl)
theorem dd_T_checkedKind_14 : decode mt_T_checkedKind.cc 14 = .ok (.invokespecial 143, 3) := dk_T_checkedKind_b0 (14, .invokespecial 143, 3) (List.mem_of_getElem? (i := 6) rfl)
theorem dd_T_checkedKind_17 : decode mt_T_checkedKind.cc 17 = .ok (.athrow, 1) := dk_T_checkedKind_b0 (17, .athrow, 1) (List.mem_of_getElem? (i := 7) rfl)
theorem dd_T_checkedKind_18 : decode mt_T_checkedKind.cc 18 = .ok (.aload_n 0, 1) := dk_T_checkedKind_b0 (18, .aload_n 0, 1) (List.mem_of_getElem? (i := 8) rfl)
theorem dd_T_checkedKind_19 : decode mt_T_checkedKind.cc 19 = .ok (.aload_n 0, 1) := dk_T_checkedKind_b0 (19, .aload_n 0, 1) (List.mem_of_getElem? (i := 9) rfl)
theorem dd_T_checkedKind_20 : decode mt_T_checkedKind.cc 20 = .ok (.getfield 50, 3) := dk_T_checkedKind_b0 (20, .getfield 50, 3) (List.mem_of_getElem? (i := 10) rfl)
theorem dd_T_checkedKind_23 : decode mt_T_checkedKind.cc 23 = .ok (.aload_n 0, 1) := dk_T_checkedKind_b0 (23, .aload_n 0, 1) (List.mem_of_getElem? (i := 11) rfl)
theorem dd_T_checkedKind_24 : decode mt_T_checkedKind.cc 24 = .ok (.getfield 31, 3) := dk_T_checkedKind_b0 (24, .getfield 31, 3) (List.mem_of_getElem? (i := 12) rfl)
theorem dd_T_checkedKind_27 : decode mt_T_checkedKind.cc 27 = .ok (.aload_n 0, 1) := dk_T_checkedKind_b0 (27, .aload_n 0, 1) (List.mem_of_getElem? (i := 13) rfl)
theorem dd_T_checkedKind_28 : decode mt_T_checkedKind.cc 28 = .ok (.getfield 17, 3) := dk_T_checkedKind_b0 (28, .getfield 17, 3) (List.mem_of_getElem? (i := 14) rfl)
theorem dd_T_checkedKind_31 : decode mt_T_checkedKind.cc 31 = .ok (.invokevirtual 144, 3) := dk_T_checkedKind_b0 (31, .invokevirtual 144, 3) (List.mem_of_getElem? (i := 15) rfl)
theorem dd_T_checkedKind_34 : decode mt_T_checkedKind.cc 34 = .ok (.invokevirtual 117, 3) := dk_T_checkedKind_b0 (34, .invokevirtual 117, 3) (List.mem_of_getElem? (i := 16) rfl)
theorem dd_T_checkedKind_37 : decode mt_T_checkedKind.cc 37 = .ok (.aload_n 0, 1) := dk_T_checkedKind_b0 (37, .aload_n 0, 1) (List.mem_of_getElem? (i := 17) rfl)
theorem dd_T_checkedKind_38 : decode mt_T_checkedKind.cc 38 = .ok (.getfield 50, 3) := dk_T_checkedKind_b0 (38, .getfield 50, 3) (List.mem_of_getElem? (i := 18) rfl)
theorem dd_T_checkedKind_41 : decode mt_T_checkedKind.cc 41 = .ok (.getfield 148, 3) := dk_T_checkedKind_b0 (41, .getfield 148, 3) (List.mem_of_getElem? (i := 19) rfl)
theorem dd_T_checkedKind_44 : decode mt_T_checkedKind.cc 44 = .ok (.ireturn, 1) := dk_T_checkedKind_b0 (44, .ireturn, 1) (List.mem_of_getElem? (i := 20) rfl)
theorem cw_T_checkedKind : gj_cw mt_T_checkedKind ∈ tw_all := mw_806
theorem pl_T_checkedKind : gj_plain mt_T_checkedKind.y := ⟨by decide +kernel, by decide +kernel⟩
theorem pn_T_checkedKind : plainName mt_T_checkedKind.y.cls = true := by decide +kernel
theorem np_T_checkedKind : gj_np mt_T_checkedKind.y = some 0 := by decide +kernel
def mt_T_tellError : Mt := (⟨"TruthBench", "tellError", "(I)V"⟩, prog_1_method_16_code, 2, none, [])
def dl_T_tellError_b0 : List (Nat × Instr × Nat) := [(0, .iload_n 1, 1), (1, .ifCond .eq 16, 3), (4, .aload_n 0, 1), (5, .iload_n 1, 1), (6, .putfield 66, 3), (9, .new 151, 3), (12, .dup, 1), (13, .invokespecial 153, 3), (16, .athrow, 1), (17, .return_, 1)]
set_option maxRecDepth 100000 in
theorem dk_T_tellError_b0 : ∀ q ∈ dl_T_tellError_b0, decode mt_T_tellError.cc q.1 = .ok (q.2.1, q.2.2) := by decide +kernel
theorem dd_T_tellError_0 : decode mt_T_tellError.cc 0 = .ok (.iload_n 1, 1) := dk_T_tellError_b0 (0, .iload_n 1, 1) (List.mem_of_getElem? (i := 0) rfl)
theorem dd_T_tellError_1 : decode mt_T_tellError.cc 1 = .ok (.ifCond .eq 16, 3) := dk_T_tellError_b0 (1, .ifCond .eq 16, 3) (List.mem_of_getElem? (i := 1) rfl)
theorem dd_T_tellError_4 : decode mt_T_tellError.cc 4 = .ok (.aload_n 0, 1) := dk_T_tellError_b0 (4, .aload_n 0, 1) (List.mem_of_getElem? (i := 2) rfl)
theorem dd_T_tellError_5 : decode mt_T_tellError.cc 5 = .ok (.iload_n 1, 1) := dk_T_tellError_b0 (5, .iload_n 1, 1) (List.mem_of_getElem? (i := 3) rfl)
theorem dd_T_tellError_6 : decode mt_T_tellError.cc 6 = .ok (.putfield 66, 3) := dk_T_tellError_b0 (6, .putfield 66, 3) (List.mem_of_getElem? (i := 4) rfl)
theorem dd_T_tellError_9 : decode mt_T_tellError.cc 9 = .ok (.new 151, 3) := dk_T_tellError_b0 (9, .new 151, 3) (List.mem_of_getElem? (i := 5) rfl)
theorem dd_T_tellError_12 : decode mt_T_tellError.cc 12 = .ok (.dup, 1) := dk_T_tellError_b0 (12, .dup, 1) (List.mem_of_getElem? (i := 6) rfl)
theorem dd_T_tellError_13 : decode mt_T_tellError.cc 13 = .ok (.invokespecial 153, 3) := dk_T_tellError_b0 (13, .invokespecial 153, 3) (List.mem_of_getElem? (i := 7) rfl)
theorem dd_T_tellError_16 : decode mt_T_tellError.cc 16 = .ok (.athrow, 1) := dk_T_tellError_b0 (16, .athrow, 1) (List.mem_of_getElem? (i := 8) rfl)
theorem dd_T_tellError_17 : decode mt_T_tellError.cc 17 = .ok (.return_, 1) := dk_T_tellError_b0 (17, .return_, 1) (List.mem_of_getElem? (i := 9) rfl)
theorem cw_T_tellError : gj_cw mt_T_tellError ∈ tw_all := mw_862
theorem pl_T_tellError : gj_plain mt_T_tellError.y := ⟨by decide +kernel, by decide +kernel⟩
theorem pn_T_tellError : plainName mt_T_tellError.y.cls = true := by decide +kernel
theorem np_T_tellError : gj_np mt_T_tellError.y = some 1 := by decide +kernel
def mt_T_work : Mt := (⟨"TruthBench", "work", "()I"⟩, prog_1_method_10_code, 1, some .int, [])
def dl_T_work_b0 : List (Nat × Instr × Nat) := [(0, .aload_n 0, 1), (1, .invokevirtual 109, 3), (4, .pop, 1), (5, .aload_n 0, 1), (6, .aload_n 0, 1), (7, .getfield 59, 3), (10, .aload_n 0, 1), (11, .getfield 31, 3), (14, .invokevirtual 113, 3), (17, .invokevirtual 117, 3), (20, .aload_n 0, 1), (21, .getfield 24, 3), (24, .bipush 9, 2), (26, .bipush 8, 2), (28, .invokevirtual 120, 3), (31, .aload_n 0, 1), (32, .getfield 24, 3), (35, .bipush 8, 2), (37, .invokevirtual 123, 3), (40, .ifCond .eq 7, 3), (43, .iconst 0, 1), (44, .goto 4, 3), (47, .iconst 1, 1), (48, .ireturn, 1)]
set_option maxRecDepth 100000 in
theorem dk_T_work_b0 : ∀ q ∈ dl_T_work_b0, decode mt_T_work.cc q.1 = .ok (q.2.1, q.2.2) := by decide +kernel
theorem dd_T_work_0 : decode mt_T_work.cc 0 = .ok (.aload_n 0, 1) := dk_T_work_b0 (0, .aload_n 0, 1) (List.mem_of_getElem? (i := 0) rfl)
theorem dd_T_work_1 : decode mt_T_work.cc 1 = .ok (.invokevirtual 109, 3) := dk_T_work_b0 (1, .invokevirtual 109, 3) (List.mem_of_getElem? (i := 1) rfl)
theorem dd_T_work_4 : decode mt_T_work.cc 4 = .ok (.pop, 1) := dk_T_work_b0 (4, .pop, 1) (List.mem_of_getElem? (i := 2) rfl)
theorem dd_T_work_5 : decode mt_T_work.cc 5 = .ok (.aload_n 0, 1) := dk_T_work_b0 (5, .aload_n 0, 1) (List.mem_of_getElem? (i := 3) rfl)
theorem dd_T_work_6 : decode mt_T_work.cc 6 = .ok (.aload_n 0, 1) := dk_T_work_b0 (6, .aload_n 0, 1) (List.mem_of_getElem? (i := 4) rfl)
theorem dd_T_work_7 : decode mt_T_work.cc 7 = .ok (.getfield 59, 3) := dk_T_work_b0 (7, .getfield 59, 3) (List.mem_of_getElem? (i := 5) rfl)
theorem dd_T_work_10 : decode mt_T_work.cc 10 = .ok (.aload_n 0, 1) := dk_T_work_b0 (10, .aload_n 0, 1) (List.mem_of_getElem? (i := 6) rfl)
theorem dd_T_work_11 : decode mt_T_work.cc 11 = .ok (.getfield 31, 3) := dk_T_work_b0 (11, .getfield 31, 3) (List.mem_of_getElem? (i := 7) rfl)
theorem dd_T_work_14 : decode mt_T_work.cc 14 = .ok (.invokevirtual 113, 3) := dk_T_work_b0 (14, .invokevirtual 113, 3) (List.mem_of_getElem? (i := 8) rfl)
theorem dd_T_work_17 : decode mt_T_work.cc 17 = .ok (.invokevirtual 117, 3) := dk_T_work_b0 (17, .invokevirtual 117, 3) (List.mem_of_getElem? (i := 9) rfl)
theorem dd_T_work_20 : decode mt_T_work.cc 20 = .ok (.aload_n 0, 1) := dk_T_work_b0 (20, .aload_n 0, 1) (List.mem_of_getElem? (i := 10) rfl)
theorem dd_T_work_21 : decode mt_T_work.cc 21 = .ok (.getfield 24, 3) := dk_T_work_b0 (21, .getfield 24, 3) (List.mem_of_getElem? (i := 11) rfl)
theorem dd_T_work_24 : decode mt_T_work.cc 24 = .ok (.bipush 9, 2) := dk_T_work_b0 (24, .bipush 9, 2) (List.mem_of_getElem? (i := 12) rfl)
theorem dd_T_work_26 : decode mt_T_work.cc 26 = .ok (.bipush 8, 2) := dk_T_work_b0 (26, .bipush 8, 2) (List.mem_of_getElem? (i := 13) rfl)
theorem dd_T_work_28 : decode mt_T_work.cc 28 = .ok (.invokevirtual 120, 3) := dk_T_work_b0 (28, .invokevirtual 120, 3) (List.mem_of_getElem? (i := 14) rfl)
theorem dd_T_work_31 : decode mt_T_work.cc 31 = .ok (.aload_n 0, 1) := dk_T_work_b0 (31, .aload_n 0, 1) (List.mem_of_getElem? (i := 15) rfl)
theorem dd_T_work_32 : decode mt_T_work.cc 32 = .ok (.getfield 24, 3) := dk_T_work_b0 (32, .getfield 24, 3) (List.mem_of_getElem? (i := 16) rfl)
theorem dd_T_work_35 : decode mt_T_work.cc 35 = .ok (.bipush 8, 2) := dk_T_work_b0 (35, .bipush 8, 2) (List.mem_of_getElem? (i := 17) rfl)
theorem dd_T_work_37 : decode mt_T_work.cc 37 = .ok (.invokevirtual 123, 3) := dk_T_work_b0 (37, .invokevirtual 123, 3) (List.mem_of_getElem? (i := 18) rfl)
theorem dd_T_work_40 : decode mt_T_work.cc 40 = .ok (.ifCond .eq 7, 3) := dk_T_work_b0 (40, .ifCond .eq 7, 3) (List.mem_of_getElem? (i := 19) rfl)
theorem dd_T_work_43 : decode mt_T_work.cc 43 = .ok (.iconst 0, 1) := dk_T_work_b0 (43, .iconst 0, 1) (List.mem_of_getElem? (i := 20) rfl)
theorem dd_T_work_44 : decode mt_T_work.cc 44 = .ok (.goto 4, 3) := dk_T_work_b0 (44, .goto 4, 3) (List.mem_of_getElem? (i := 21) rfl)
theorem dd_T_work_47 : decode mt_T_work.cc 47 = .ok (.iconst 1, 1) := dk_T_work_b0 (47, .iconst 1, 1) (List.mem_of_getElem? (i := 22) rfl)
theorem dd_T_work_48 : decode mt_T_work.cc 48 = .ok (.ireturn, 1) := dk_T_work_b0 (48, .ireturn, 1) (List.mem_of_getElem? (i := 23) rfl)
theorem cw_T_work : gj_cw mt_T_work ∈ tw_all := mw_884
theorem pl_T_work : gj_plain mt_T_work.y := ⟨by decide +kernel, by decide +kernel⟩
theorem pn_T_work : plainName mt_T_work.y.cls = true := by decide +kernel
theorem np_T_work : gj_np mt_T_work.y = some 0 := by decide +kernel
def mt_T_raised : Mt := (⟨"TruthBench", "raised", "(I)I"⟩, prog_1_method_22_code, 1, some .int, [])
def dl_T_raised_b0 : List (Nat × Instr × Nat) := [(0, .iload_n 0, 1), (1, .bipush 97, 2), (3, .if_icmp .lt 16, 3), (6, .iload_n 0, 1), (7, .bipush 122, 2), (9, .if_icmp .gt 10, 3), (12, .iload_n 0, 1), (13, .bipush 32, 2), (15, .isub, 1), (16, .goto 4, 3), (19, .iload_n 0, 1), (20, .ireturn, 1)]
set_option maxRecDepth 100000 in
theorem dk_T_raised_b0 : ∀ q ∈ dl_T_raised_b0, decode mt_T_raised.cc q.1 = .ok (q.2.1, q.2.2) := by decide +kernel
theorem dd_T_raised_0 : decode mt_T_raised.cc 0 = .ok (.iload_n 0, 1) := dk_T_raised_b0 (0, .iload_n 0, 1) (List.mem_of_getElem? (i := 0) rfl)
theorem dd_T_raised_1 : decode mt_T_raised.cc 1 = .ok (.bipush 97, 2) := dk_T_raised_b0 (1, .bipush 97, 2) (List.mem_of_getElem? (i := 1) rfl)
theorem dd_T_raised_3 : decode mt_T_raised.cc 3 = .ok (.if_icmp .lt 16, 3) := dk_T_raised_b0 (3, .if_icmp .lt 16, 3) (List.mem_of_getElem? (i := 2) rfl)
theorem dd_T_raised_6 : decode mt_T_raised.cc 6 = .ok (.iload_n 0, 1) := dk_T_raised_b0 (6, .iload_n 0, 1) (List.mem_of_getElem? (i := 3) rfl)
theorem dd_T_raised_7 : decode mt_T_raised.cc 7 = .ok (.bipush 122, 2) := dk_T_raised_b0 (7, .bipush 122, 2) (List.mem_of_getElem? (i := 4) rfl)
theorem dd_T_raised_9 : decode mt_T_raised.cc 9 = .ok (.if_icmp .gt 10, 3) := dk_T_raised_b0 (9, .if_icmp .gt 10, 3) (List.mem_of_getElem? (i := 5) rfl)
theorem dd_T_raised_12 : decode mt_T_raised.cc 12 = .ok (.iload_n 0, 1) := dk_T_raised_b0 (12, .iload_n 0, 1) (List.mem_of_getElem? (i := 6) rfl)
theorem dd_T_raised_13 : decode mt_T_raised.cc 13 = .ok (.bipush 32, 2) := dk_T_raised_b0 (13, .bipush 32, 2) (List.mem_of_getElem? (i := 7) rfl)
theorem dd_T_raised_15 : decode mt_T_raised.cc 15 = .ok (.isub, 1) := dk_T_raised_b0 (15, .isub, 1) (List.mem_of_getElem? (i := 8) rfl)
theorem dd_T_raised_16 : decode mt_T_raised.cc 16 = .ok (.goto 4, 3) := dk_T_raised_b0 (16, .goto 4, 3) (List.mem_of_getElem? (i := 9) rfl)
theorem dd_T_raised_19 : decode mt_T_raised.cc 19 = .ok (.iload_n 0, 1) := dk_T_raised_b0 (19, .iload_n 0, 1) (List.mem_of_getElem? (i := 10) rfl)
theorem dd_T_raised_20 : decode mt_T_raised.cc 20 = .ok (.ireturn, 1) := dk_T_raised_b0 (20, .ireturn, 1) (List.mem_of_getElem? (i := 11) rfl)
theorem cw_T_raised : gj_cw mt_T_raised ∈ tw_all := mw_951
theorem pl_T_raised : gj_plain mt_T_raised.y := ⟨by decide +kernel, by decide +kernel⟩
theorem pn_T_raised : plainName mt_T_raised.y.cls = true := by decide +kernel
theorem np_T_raised : gj_np mt_T_raised.y = some 1 := by decide +kernel
def mt_T_keep : Mt := (⟨"TruthBench", "keep", "(I)I"⟩, prog_1_method_11_code, 2, some .int, [])
def dl_T_keep_b0 : List (Nat × Instr × Nat) := [(0, .iload_n 1, 1), (1, .bipush 7, 2), (3, .invokestatic 76, 3), (6, .aload_n 0, 1), (7, .getfield 24, 3), (10, .bipush 8, 2), (12, .invokevirtual 123, 3), (15, .ifCond .ne 24, 3), (18, .aload_n 0, 1), (19, .getfield 24, 3), (22, .getfield 127, 3), (25, .bipush 8, 2), (27, .iaload, 1), (28, .aload_n 0, 1), (29, .getfield 17, 3), (32, .iload_n 1, 1), (33, .iaload, 1), (34, .if_icmp .eq 5, 3), (37, .iconst 0, 1), (38, .ireturn, 1), (39, .aload_n 0, 1), (40, .getfield 24, 3), (43, .bipush 8, 2), (45, .iload_n 1, 1), (46, .invokevirtual 120, 3), (49, .iconst 1, 1), (50, .ireturn, 1)]
set_option maxRecDepth 100000 in
theorem dk_T_keep_b0 : ∀ q ∈ dl_T_keep_b0, decode mt_T_keep.cc q.1 = .ok (q.2.1, q.2.2) := by decide +kernel
theorem dd_T_keep_0 : decode mt_T_keep.cc 0 = .ok (.iload_n 1, 1) := dk_T_keep_b0 (0, .iload_n 1, 1) (List.mem_of_getElem? (i := 0) rfl)
theorem dd_T_keep_1 : decode mt_T_keep.cc 1 = .ok (.bipush 7, 2) := dk_T_keep_b0 (1, .bipush 7, 2) (List.mem_of_getElem? (i := 1) rfl)
theorem dd_T_keep_3 : decode mt_T_keep.cc 3 = .ok (.invokestatic 76, 3) := dk_T_keep_b0 (3, .invokestatic 76, 3) (List.mem_of_getElem? (i := 2) rfl)
theorem dd_T_keep_6 : decode mt_T_keep.cc 6 = .ok (.aload_n 0, 1) := dk_T_keep_b0 (6, .aload_n 0, 1) (List.mem_of_getElem? (i := 3) rfl)
theorem dd_T_keep_7 : decode mt_T_keep.cc 7 = .ok (.getfield 24, 3) := dk_T_keep_b0 (7, .getfield 24, 3) (List.mem_of_getElem? (i := 4) rfl)
theorem dd_T_keep_10 : decode mt_T_keep.cc 10 = .ok (.bipush 8, 2) := dk_T_keep_b0 (10, .bipush 8, 2) (List.mem_of_getElem? (i := 5) rfl)
theorem dd_T_keep_12 : decode mt_T_keep.cc 12 = .ok (.invokevirtual 123, 3) := dk_T_keep_b0 (12, .invokevirtual 123, 3) (List.mem_of_getElem? (i := 6) rfl)
theorem dd_T_keep_15 : decode mt_T_keep.cc 15 = .ok (.ifCond .ne 24, 3) := dk_T_keep_b0 (15, .ifCond .ne 24, 3) (List.mem_of_getElem? (i := 7) rfl)
theorem dd_T_keep_18 : decode mt_T_keep.cc 18 = .ok (.aload_n 0, 1) := dk_T_keep_b0 (18, .aload_n 0, 1) (List.mem_of_getElem? (i := 8) rfl)
theorem dd_T_keep_19 : decode mt_T_keep.cc 19 = .ok (.getfield 24, 3) := dk_T_keep_b0 (19, .getfield 24, 3) (List.mem_of_getElem? (i := 9) rfl)
theorem dd_T_keep_22 : decode mt_T_keep.cc 22 = .ok (.getfield 127, 3) := dk_T_keep_b0 (22, .getfield 127, 3) (List.mem_of_getElem? (i := 10) rfl)
theorem dd_T_keep_25 : decode mt_T_keep.cc 25 = .ok (.bipush 8, 2) := dk_T_keep_b0 (25, .bipush 8, 2) (List.mem_of_getElem? (i := 11) rfl)
theorem dd_T_keep_27 : decode mt_T_keep.cc 27 = .ok (.iaload, 1) := dk_T_keep_b0 (27, .iaload, 1) (List.mem_of_getElem? (i := 12) rfl)
theorem dd_T_keep_28 : decode mt_T_keep.cc 28 = .ok (.aload_n 0, 1) := dk_T_keep_b0 (28, .aload_n 0, 1) (List.mem_of_getElem? (i := 13) rfl)
theorem dd_T_keep_29 : decode mt_T_keep.cc 29 = .ok (.getfield 17, 3) := dk_T_keep_b0 (29, .getfield 17, 3) (List.mem_of_getElem? (i := 14) rfl)
theorem dd_T_keep_32 : decode mt_T_keep.cc 32 = .ok (.iload_n 1, 1) := dk_T_keep_b0 (32, .iload_n 1, 1) (List.mem_of_getElem? (i := 15) rfl)
theorem dd_T_keep_33 : decode mt_T_keep.cc 33 = .ok (.iaload, 1) := dk_T_keep_b0 (33, .iaload, 1) (List.mem_of_getElem? (i := 16) rfl)
theorem dd_T_keep_34 : decode mt_T_keep.cc 34 = .ok (.if_icmp .eq 5, 3) := dk_T_keep_b0 (34, .if_icmp .eq 5, 3) (List.mem_of_getElem? (i := 17) rfl)
theorem dd_T_keep_37 : decode mt_T_keep.cc 37 = .ok (.iconst 0, 1) := dk_T_keep_b0 (37, .iconst 0, 1) (List.mem_of_getElem? (i := 18) rfl)
theorem dd_T_keep_38 : decode mt_T_keep.cc 38 = .ok (.ireturn, 1) := dk_T_keep_b0 (38, .ireturn, 1) (List.mem_of_getElem? (i := 19) rfl)
theorem dd_T_keep_39 : decode mt_T_keep.cc 39 = .ok (.aload_n 0, 1) := dk_T_keep_b0 (39, .aload_n 0, 1) (List.mem_of_getElem? (i := 20) rfl)
theorem dd_T_keep_40 : decode mt_T_keep.cc 40 = .ok (.getfield 24, 3) := dk_T_keep_b0 (40, .getfield 24, 3) (List.mem_of_getElem? (i := 21) rfl)
theorem dd_T_keep_43 : decode mt_T_keep.cc 43 = .ok (.bipush 8, 2) := dk_T_keep_b0 (43, .bipush 8, 2) (List.mem_of_getElem? (i := 22) rfl)
theorem dd_T_keep_45 : decode mt_T_keep.cc 45 = .ok (.iload_n 1, 1) := dk_T_keep_b0 (45, .iload_n 1, 1) (List.mem_of_getElem? (i := 23) rfl)
theorem dd_T_keep_46 : decode mt_T_keep.cc 46 = .ok (.invokevirtual 120, 3) := dk_T_keep_b0 (46, .invokevirtual 120, 3) (List.mem_of_getElem? (i := 24) rfl)
theorem dd_T_keep_49 : decode mt_T_keep.cc 49 = .ok (.iconst 1, 1) := dk_T_keep_b0 (49, .iconst 1, 1) (List.mem_of_getElem? (i := 25) rfl)
theorem dd_T_keep_50 : decode mt_T_keep.cc 50 = .ok (.ireturn, 1) := dk_T_keep_b0 (50, .ireturn, 1) (List.mem_of_getElem? (i := 26) rfl)
theorem cw_T_keep : gj_cw mt_T_keep ∈ tw_all := mw_1046
theorem pl_T_keep : gj_plain mt_T_keep.y := ⟨by decide +kernel, by decide +kernel⟩
theorem pn_T_keep : plainName mt_T_keep.y.cls = true := by decide +kernel
theorem np_T_keep : gj_np mt_T_keep.y = some 1 := by decide +kernel
def mt_T_value : Mt := (⟨"TruthBench", "value", "(I)J"⟩, prog_1_method_12_code, 2, some .long, [])
def dl_T_value_b0 : List (Nat × Instr × Nat) := [(0, .iload_n 1, 1), (1, .iconst 5, 1), (2, .invokestatic 76, 3), (5, .iload_n 1, 1), (6, .ifCond .ne 16, 3), (9, .aload_n 0, 1), (10, .getfield 24, 3), (13, .getfield 130, 3), (16, .bipush 8, 2), (18, .laload, 1), (19, .goto 19, 3), (22, .aload_n 0, 1), (23, .getfield 24, 3), (26, .bipush 8, 2), (28, .bipush 8, 2), (30, .iload_n 1, 1), (31, .imul, 1), (32, .bipush 8, 2), (34, .isub, 1), (35, .invokevirtual 134, 3), (38, .lreturn, 1)]
set_option maxRecDepth 100000 in
theorem dk_T_value_b0 : ∀ q ∈ dl_T_value_b0, decode mt_T_value.cc q.1 = .ok (q.2.1, q.2.2) := by decide +kernel
theorem dd_T_value_0 : decode mt_T_value.cc 0 = .ok (.iload_n 1, 1) := dk_T_value_b0 (0, .iload_n 1, 1) (List.mem_of_getElem? (i := 0) rfl)
theorem dd_T_value_1 : decode mt_T_value.cc 1 = .ok (.iconst 5, 1) := dk_T_value_b0 (1, .iconst 5, 1) (List.mem_of_getElem? (i := 1) rfl)
theorem dd_T_value_2 : decode mt_T_value.cc 2 = .ok (.invokestatic 76, 3) := dk_T_value_b0 (2, .invokestatic 76, 3) (List.mem_of_getElem? (i := 2) rfl)
theorem dd_T_value_5 : decode mt_T_value.cc 5 = .ok (.iload_n 1, 1) := dk_T_value_b0 (5, .iload_n 1, 1) (List.mem_of_getElem? (i := 3) rfl)
theorem dd_T_value_6 : decode mt_T_value.cc 6 = .ok (.ifCond .ne 16, 3) := dk_T_value_b0 (6, .ifCond .ne 16, 3) (List.mem_of_getElem? (i := 4) rfl)
theorem dd_T_value_9 : decode mt_T_value.cc 9 = .ok (.aload_n 0, 1) := dk_T_value_b0 (9, .aload_n 0, 1) (List.mem_of_getElem? (i := 5) rfl)
theorem dd_T_value_10 : decode mt_T_value.cc 10 = .ok (.getfield 24, 3) := dk_T_value_b0 (10, .getfield 24, 3) (List.mem_of_getElem? (i := 6) rfl)
theorem dd_T_value_13 : decode mt_T_value.cc 13 = .ok (.getfield 130, 3) := dk_T_value_b0 (13, .getfield 130, 3) (List.mem_of_getElem? (i := 7) rfl)
theorem dd_T_value_16 : decode mt_T_value.cc 16 = .ok (.bipush 8, 2) := dk_T_value_b0 (16, .bipush 8, 2) (List.mem_of_getElem? (i := 8) rfl)
theorem dd_T_value_18 : decode mt_T_value.cc 18 = .ok (.laload, 1) := dk_T_value_b0 (18, .laload, 1) (List.mem_of_getElem? (i := 9) rfl)
theorem dd_T_value_19 : decode mt_T_value.cc 19 = .ok (.goto 19, 3) := dk_T_value_b0 (19, .goto 19, 3) (List.mem_of_getElem? (i := 10) rfl)
theorem dd_T_value_22 : decode mt_T_value.cc 22 = .ok (.aload_n 0, 1) := dk_T_value_b0 (22, .aload_n 0, 1) (List.mem_of_getElem? (i := 11) rfl)
theorem dd_T_value_23 : decode mt_T_value.cc 23 = .ok (.getfield 24, 3) := dk_T_value_b0 (23, .getfield 24, 3) (List.mem_of_getElem? (i := 12) rfl)
theorem dd_T_value_26 : decode mt_T_value.cc 26 = .ok (.bipush 8, 2) := dk_T_value_b0 (26, .bipush 8, 2) (List.mem_of_getElem? (i := 13) rfl)
theorem dd_T_value_28 : decode mt_T_value.cc 28 = .ok (.bipush 8, 2) := dk_T_value_b0 (28, .bipush 8, 2) (List.mem_of_getElem? (i := 14) rfl)
theorem dd_T_value_30 : decode mt_T_value.cc 30 = .ok (.iload_n 1, 1) := dk_T_value_b0 (30, .iload_n 1, 1) (List.mem_of_getElem? (i := 15) rfl)
theorem dd_T_value_31 : decode mt_T_value.cc 31 = .ok (.imul, 1) := dk_T_value_b0 (31, .imul, 1) (List.mem_of_getElem? (i := 16) rfl)
theorem dd_T_value_32 : decode mt_T_value.cc 32 = .ok (.bipush 8, 2) := dk_T_value_b0 (32, .bipush 8, 2) (List.mem_of_getElem? (i := 17) rfl)
theorem dd_T_value_34 : decode mt_T_value.cc 34 = .ok (.isub, 1) := dk_T_value_b0 (34, .isub, 1) (List.mem_of_getElem? (i := 18) rfl)
theorem dd_T_value_35 : decode mt_T_value.cc 35 = .ok (.invokevirtual 134, 3) := dk_T_value_b0 (35, .invokevirtual 134, 3) (List.mem_of_getElem? (i := 19) rfl)
theorem dd_T_value_38 : decode mt_T_value.cc 38 = .ok (.lreturn, 1) := dk_T_value_b0 (38, .lreturn, 1) (List.mem_of_getElem? (i := 20) rfl)
theorem cw_T_value : gj_cw mt_T_value ∈ tw_all := mw_1053
theorem pl_T_value : gj_plain mt_T_value.y := ⟨by decide +kernel, by decide +kernel⟩
theorem pn_T_value : plainName mt_T_value.y.cls = true := by decide +kernel
theorem np_T_value : gj_np mt_T_value.y = some 1 := by decide +kernel
def mt_T_count : Mt := (⟨"TruthBench", "count", "(I)I"⟩, prog_1_method_13_code, 2, some .int, [])
def dl_T_count_b0 : List (Nat × Instr × Nat) := [(0, .iload_n 1, 1), (1, .iconst 2, 1), (2, .invokestatic 76, 3), (5, .iload_n 1, 1), (6, .ifCond .ne 8, 3), (9, .aload_n 0, 1), (10, .getfield 13, 3), (13, .ireturn, 1), (14, .iload_n 1, 1), (15, .iconst 1, 1), (16, .if_icmp .ne 10, 3), (19, .aload_n 0, 1), (20, .getfield 63, 3), (23, .goto 7, 3), (26, .aload_n 0, 1), (27, .getfield 66, 3), (30, .ireturn, 1)]
set_option maxRecDepth 100000 in
theorem dk_T_count_b0 : ∀ q ∈ dl_T_count_b0, decode mt_T_count.cc q.1 = .ok (q.2.1, q.2.2) := by decide +kernel
theorem dd_T_count_0 : decode mt_T_count.cc 0 = .ok (.iload_n 1, 1) := dk_T_count_b0 (0, .iload_n 1, 1) (List.mem_of_getElem? (i := 0) rfl)
theorem dd_T_count_1 : decode mt_T_count.cc 1 = .ok (.iconst 2, 1) := dk_T_count_b0 (1, .iconst 2, 1) (List.mem_of_getElem? (i := 1) rfl)
theorem dd_T_count_2 : decode mt_T_count.cc 2 = .ok (.invokestatic 76, 3) := dk_T_count_b0 (2, .invokestatic 76, 3) (List.mem_of_getElem? (i := 2) rfl)
theorem dd_T_count_5 : decode mt_T_count.cc 5 = .ok (.iload_n 1, 1) := dk_T_count_b0 (5, .iload_n 1, 1) (List.mem_of_getElem? (i := 3) rfl)
theorem dd_T_count_6 : decode mt_T_count.cc 6 = .ok (.ifCond .ne 8, 3) := dk_T_count_b0 (6, .ifCond .ne 8, 3) (List.mem_of_getElem? (i := 4) rfl)
theorem dd_T_count_9 : decode mt_T_count.cc 9 = .ok (.aload_n 0, 1) := dk_T_count_b0 (9, .aload_n 0, 1) (List.mem_of_getElem? (i := 5) rfl)
theorem dd_T_count_10 : decode mt_T_count.cc 10 = .ok (.getfield 13, 3) := dk_T_count_b0 (10, .getfield 13, 3) (List.mem_of_getElem? (i := 6) rfl)
theorem dd_T_count_13 : decode mt_T_count.cc 13 = .ok (.ireturn, 1) := dk_T_count_b0 (13, .ireturn, 1) (List.mem_of_getElem? (i := 7) rfl)
theorem dd_T_count_14 : decode mt_T_count.cc 14 = .ok (.iload_n 1, 1) := dk_T_count_b0 (14, .iload_n 1, 1) (List.mem_of_getElem? (i := 8) rfl)
theorem dd_T_count_15 : decode mt_T_count.cc 15 = .ok (.iconst 1, 1) := dk_T_count_b0 (15, .iconst 1, 1) (List.mem_of_getElem? (i := 9) rfl)
theorem dd_T_count_16 : decode mt_T_count.cc 16 = .ok (.if_icmp .ne 10, 3) := dk_T_count_b0 (16, .if_icmp .ne 10, 3) (List.mem_of_getElem? (i := 10) rfl)
theorem dd_T_count_19 : decode mt_T_count.cc 19 = .ok (.aload_n 0, 1) := dk_T_count_b0 (19, .aload_n 0, 1) (List.mem_of_getElem? (i := 11) rfl)
theorem dd_T_count_20 : decode mt_T_count.cc 20 = .ok (.getfield 63, 3) := dk_T_count_b0 (20, .getfield 63, 3) (List.mem_of_getElem? (i := 12) rfl)
theorem dd_T_count_23 : decode mt_T_count.cc 23 = .ok (.goto 7, 3) := dk_T_count_b0 (23, .goto 7, 3) (List.mem_of_getElem? (i := 13) rfl)
theorem dd_T_count_26 : decode mt_T_count.cc 26 = .ok (.aload_n 0, 1) := dk_T_count_b0 (26, .aload_n 0, 1) (List.mem_of_getElem? (i := 14) rfl)
theorem dd_T_count_27 : decode mt_T_count.cc 27 = .ok (.getfield 66, 3) := dk_T_count_b0 (27, .getfield 66, 3) (List.mem_of_getElem? (i := 15) rfl)
theorem dd_T_count_30 : decode mt_T_count.cc 30 = .ok (.ireturn, 1) := dk_T_count_b0 (30, .ireturn, 1) (List.mem_of_getElem? (i := 16) rfl)
theorem cw_T_count : gj_cw mt_T_count ∈ tw_all := mw_1064
theorem pl_T_count : gj_plain mt_T_count.y := ⟨by decide +kernel, by decide +kernel⟩
theorem pn_T_count : plainName mt_T_count.y.cls = true := by decide +kernel
theorem np_T_count : gj_np mt_T_count.y = some 1 := by decide +kernel
