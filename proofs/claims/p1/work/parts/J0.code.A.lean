def mt_A_feed : Mt := (⟨"TruthBenchLaw", "feed", "(LTruthBench;IIIII[J)I"⟩, method_3_code, 8, some .int, [(0, 16, 19, 13)])
def dl_A_feed_b0 : List (Nat × Instr × Nat) := [(0, .aload 6, 2), (2, .iconst 0, 1), (3, .aload_n 0, 1), (4, .iload_n 1, 1), (5, .iload_n 2, 1), (6, .iload_n 3, 1), (7, .iload 4, 2), (9, .iload 5, 2), (11, .invokevirtual 7, 3), (14, .i2l, 1), (15, .lastore, 1), (16, .goto 7, 3), (19, .astore 7, 2), (21, .iconst 1, 1), (22, .ireturn, 1), (23, .iconst 0, 1), (24, .ireturn, 1)]
set_option maxRecDepth 100000 in
theorem dk_A_feed_b0 : ∀ q ∈ dl_A_feed_b0, decode mt_A_feed.cc q.1 = .ok (q.2.1, q.2.2) := by decide +kernel
theorem dd_A_feed_0 : decode mt_A_feed.cc 0 = .ok (.aload 6, 2) := dk_A_feed_b0 (0, .aload 6, 2) (List.mem_of_getElem? (i := 0) rfl)
theorem dd_A_feed_2 : decode mt_A_feed.cc 2 = .ok (.iconst 0, 1) := dk_A_feed_b0 (2, .iconst 0, 1) (List.mem_of_getElem? (i := 1) rfl)
theorem dd_A_feed_3 : decode mt_A_feed.cc 3 = .ok (.aload_n 0, 1) := dk_A_feed_b0 (3, .aload_n 0, 1) (List.mem_of_getElem? (i := 2) rfl)
theorem dd_A_feed_4 : decode mt_A_feed.cc 4 = .ok (.iload_n 1, 1) := dk_A_feed_b0 (4, .iload_n 1, 1) (List.mem_of_getElem? (i := 3) rfl)
theorem dd_A_feed_5 : decode mt_A_feed.cc 5 = .ok (.iload_n 2, 1) := dk_A_feed_b0 (5, .iload_n 2, 1) (List.mem_of_getElem? (i := 4) rfl)
theorem dd_A_feed_6 : decode mt_A_feed.cc 6 = .ok (.iload_n 3, 1) := dk_A_feed_b0 (6, .iload_n 3, 1) (List.mem_of_getElem? (i := 5) rfl)
theorem dd_A_feed_7 : decode mt_A_feed.cc 7 = .ok (.iload 4, 2) := dk_A_feed_b0 (7, .iload 4, 2) (List.mem_of_getElem? (i := 6) rfl)
theorem dd_A_feed_9 : decode mt_A_feed.cc 9 = .ok (.iload 5, 2) := dk_A_feed_b0 (9, .iload 5, 2) (List.mem_of_getElem? (i := 7) rfl)
theorem dd_A_feed_11 : decode mt_A_feed.cc 11 = .ok (.invokevirtual 7, 3) := dk_A_feed_b0 (11, .invokevirtual 7, 3) (List.mem_of_getElem? (i := 8) rfl)
theorem dd_A_feed_14 : decode mt_A_feed.cc 14 = .ok (.i2l, 1) := dk_A_feed_b0 (14, .i2l, 1) (List.mem_of_getElem? (i := 9) rfl)
theorem dd_A_feed_15 : decode mt_A_feed.cc 15 = .ok (.lastore, 1) := dk_A_feed_b0 (15, .lastore, 1) (List.mem_of_getElem? (i := 10) rfl)
theorem dd_A_feed_16 : decode mt_A_feed.cc 16 = .ok (.goto 7, 3) := dk_A_feed_b0 (16, .goto 7, 3) (List.mem_of_getElem? (i := 11) rfl)
theorem dd_A_feed_19 : decode mt_A_feed.cc 19 = .ok (.astore 7, 2) := dk_A_feed_b0 (19, .astore 7, 2) (List.mem_of_getElem? (i := 12) rfl)
theorem dd_A_feed_21 : decode mt_A_feed.cc 21 = .ok (.iconst 1, 1) := dk_A_feed_b0 (21, .iconst 1, 1) (List.mem_of_getElem? (i := 13) rfl)
theorem dd_A_feed_22 : decode mt_A_feed.cc 22 = .ok (.ireturn, 1) := dk_A_feed_b0 (22, .ireturn, 1) (List.mem_of_getElem? (i := 14) rfl)
theorem dd_A_feed_23 : decode mt_A_feed.cc 23 = .ok (.iconst 0, 1) := dk_A_feed_b0 (23, .iconst 0, 1) (List.mem_of_getElem? (i := 15) rfl)
theorem dd_A_feed_24 : decode mt_A_feed.cc 24 = .ok (.ireturn, 1) := dk_A_feed_b0 (24, .ireturn, 1) (List.mem_of_getElem? (i := 16) rfl)
theorem cw_A_feed : gj_cw mt_A_feed ∈ tw_all := mw_233
theorem pl_A_feed : gj_plain mt_A_feed.y := ⟨by decide +kernel, by decide +kernel⟩
theorem pn_A_feed : plainName mt_A_feed.y.cls = true := by decide +kernel
theorem np_A_feed : gj_np mt_A_feed.y = some 7 := by decide +kernel
def mt_A_end : Mt := (⟨"TruthBenchLaw", "end", "(LTruthBench;I[J)I"⟩, method_4_code, 4, some .int, [(0, 9, 12, 19)])
def dl_A_end_b0 : List (Nat × Instr × Nat) := [(0, .aload_n 2, 1), (1, .iconst 0, 1), (2, .aload_n 0, 1), (3, .iload_n 1, 1), (4, .invokevirtual 15, 3), (7, .i2l, 1), (8, .lastore, 1), (9, .goto 6, 3), (12, .astore_n 3, 1), (13, .iconst 1, 1), (14, .ireturn, 1), (15, .iconst 0, 1), (16, .ireturn, 1)]
set_option maxRecDepth 100000 in
theorem dk_A_end_b0 : ∀ q ∈ dl_A_end_b0, decode mt_A_end.cc q.1 = .ok (q.2.1, q.2.2) := by decide +kernel
theorem dd_A_end_0 : decode mt_A_end.cc 0 = .ok (.aload_n 2, 1) := dk_A_end_b0 (0, .aload_n 2, 1) (List.mem_of_getElem? (i := 0) rfl)
theorem dd_A_end_1 : decode mt_A_end.cc 1 = .ok (.iconst 0, 1) := dk_A_end_b0 (1, .iconst 0, 1) (List.mem_of_getElem? (i := 1) rfl)
theorem dd_A_end_2 : decode mt_A_end.cc 2 = .ok (.aload_n 0, 1) := dk_A_end_b0 (2, .aload_n 0, 1) (List.mem_of_getElem? (i := 2) rfl)
theorem dd_A_end_3 : decode mt_A_end.cc 3 = .ok (.iload_n 1, 1) := dk_A_end_b0 (3, .iload_n 1, 1) (List.mem_of_getElem? (i := 3) rfl)
theorem dd_A_end_4 : decode mt_A_end.cc 4 = .ok (.invokevirtual 15, 3) := dk_A_end_b0 (4, .invokevirtual 15, 3) (List.mem_of_getElem? (i := 4) rfl)
theorem dd_A_end_7 : decode mt_A_end.cc 7 = .ok (.i2l, 1) := dk_A_end_b0 (7, .i2l, 1) (List.mem_of_getElem? (i := 5) rfl)
theorem dd_A_end_8 : decode mt_A_end.cc 8 = .ok (.lastore, 1) := dk_A_end_b0 (8, .lastore, 1) (List.mem_of_getElem? (i := 6) rfl)
theorem dd_A_end_9 : decode mt_A_end.cc 9 = .ok (.goto 6, 3) := dk_A_end_b0 (9, .goto 6, 3) (List.mem_of_getElem? (i := 7) rfl)
theorem dd_A_end_12 : decode mt_A_end.cc 12 = .ok (.astore_n 3, 1) := dk_A_end_b0 (12, .astore_n 3, 1) (List.mem_of_getElem? (i := 8) rfl)
theorem dd_A_end_13 : decode mt_A_end.cc 13 = .ok (.iconst 1, 1) := dk_A_end_b0 (13, .iconst 1, 1) (List.mem_of_getElem? (i := 9) rfl)
theorem dd_A_end_14 : decode mt_A_end.cc 14 = .ok (.ireturn, 1) := dk_A_end_b0 (14, .ireturn, 1) (List.mem_of_getElem? (i := 10) rfl)
theorem dd_A_end_15 : decode mt_A_end.cc 15 = .ok (.iconst 0, 1) := dk_A_end_b0 (15, .iconst 0, 1) (List.mem_of_getElem? (i := 11) rfl)
theorem dd_A_end_16 : decode mt_A_end.cc 16 = .ok (.ireturn, 1) := dk_A_end_b0 (16, .ireturn, 1) (List.mem_of_getElem? (i := 12) rfl)
theorem cw_A_end : gj_cw mt_A_end ∈ tw_all := mw_312
theorem pl_A_end : gj_plain mt_A_end.y := ⟨by decide +kernel, by decide +kernel⟩
theorem pn_A_end : plainName mt_A_end.y.cls = true := by decide +kernel
theorem np_A_end : gj_np mt_A_end.y = some 3 := by decide +kernel
def mt_A_clear : Mt := (⟨"TruthBenchLaw", "clear", "(LTruthBench;II)I"⟩, method_5_code, 4, some .int, [(0, 6, 9, 19)])
def dl_A_clear_b0 : List (Nat × Instr × Nat) := [(0, .aload_n 0, 1), (1, .iload_n 1, 1), (2, .iload_n 2, 1), (3, .invokevirtual 21, 3), (6, .goto 6, 3), (9, .astore_n 3, 1), (10, .iconst 1, 1), (11, .ireturn, 1), (12, .iconst 0, 1), (13, .ireturn, 1)]
set_option maxRecDepth 100000 in
theorem dk_A_clear_b0 : ∀ q ∈ dl_A_clear_b0, decode mt_A_clear.cc q.1 = .ok (q.2.1, q.2.2) := by decide +kernel
theorem dd_A_clear_0 : decode mt_A_clear.cc 0 = .ok (.aload_n 0, 1) := dk_A_clear_b0 (0, .aload_n 0, 1) (List.mem_of_getElem? (i := 0) rfl)
theorem dd_A_clear_1 : decode mt_A_clear.cc 1 = .ok (.iload_n 1, 1) := dk_A_clear_b0 (1, .iload_n 1, 1) (List.mem_of_getElem? (i := 1) rfl)
theorem dd_A_clear_2 : decode mt_A_clear.cc 2 = .ok (.iload_n 2, 1) := dk_A_clear_b0 (2, .iload_n 2, 1) (List.mem_of_getElem? (i := 2) rfl)
theorem dd_A_clear_3 : decode mt_A_clear.cc 3 = .ok (.invokevirtual 21, 3) := dk_A_clear_b0 (3, .invokevirtual 21, 3) (List.mem_of_getElem? (i := 3) rfl)
theorem dd_A_clear_6 : decode mt_A_clear.cc 6 = .ok (.goto 6, 3) := dk_A_clear_b0 (6, .goto 6, 3) (List.mem_of_getElem? (i := 4) rfl)
theorem dd_A_clear_9 : decode mt_A_clear.cc 9 = .ok (.astore_n 3, 1) := dk_A_clear_b0 (9, .astore_n 3, 1) (List.mem_of_getElem? (i := 5) rfl)
theorem dd_A_clear_10 : decode mt_A_clear.cc 10 = .ok (.iconst 1, 1) := dk_A_clear_b0 (10, .iconst 1, 1) (List.mem_of_getElem? (i := 6) rfl)
theorem dd_A_clear_11 : decode mt_A_clear.cc 11 = .ok (.ireturn, 1) := dk_A_clear_b0 (11, .ireturn, 1) (List.mem_of_getElem? (i := 7) rfl)
theorem dd_A_clear_12 : decode mt_A_clear.cc 12 = .ok (.iconst 0, 1) := dk_A_clear_b0 (12, .iconst 0, 1) (List.mem_of_getElem? (i := 8) rfl)
theorem dd_A_clear_13 : decode mt_A_clear.cc 13 = .ok (.ireturn, 1) := dk_A_clear_b0 (13, .ireturn, 1) (List.mem_of_getElem? (i := 9) rfl)
theorem cw_A_clear : gj_cw mt_A_clear ∈ tw_all := mw_338
theorem pl_A_clear : gj_plain mt_A_clear.y := ⟨by decide +kernel, by decide +kernel⟩
theorem pn_A_clear : plainName mt_A_clear.y.cls = true := by decide +kernel
theorem np_A_clear : gj_np mt_A_clear.y = some 3 := by decide +kernel
def mt_A_set : Mt := (⟨"TruthBenchLaw", "set", "(LTruthBench;IJ)I"⟩, method_6_code, 5, some .int, [(0, 6, 9, 19)])
def dl_A_set_b0 : List (Nat × Instr × Nat) := [(0, .aload_n 0, 1), (1, .iload_n 1, 1), (2, .lload_n 2, 1), (3, .invokevirtual 25, 3), (6, .goto 7, 3), (9, .astore 4, 2), (11, .iconst 1, 1), (12, .ireturn, 1), (13, .iconst 0, 1), (14, .ireturn, 1)]
set_option maxRecDepth 100000 in
theorem dk_A_set_b0 : ∀ q ∈ dl_A_set_b0, decode mt_A_set.cc q.1 = .ok (q.2.1, q.2.2) := by decide +kernel
theorem dd_A_set_0 : decode mt_A_set.cc 0 = .ok (.aload_n 0, 1) := dk_A_set_b0 (0, .aload_n 0, 1) (List.mem_of_getElem? (i := 0) rfl)
theorem dd_A_set_1 : decode mt_A_set.cc 1 = .ok (.iload_n 1, 1) := dk_A_set_b0 (1, .iload_n 1, 1) (List.mem_of_getElem? (i := 1) rfl)
theorem dd_A_set_2 : decode mt_A_set.cc 2 = .ok (.lload_n 2, 1) := dk_A_set_b0 (2, .lload_n 2, 1) (List.mem_of_getElem? (i := 2) rfl)
theorem dd_A_set_3 : decode mt_A_set.cc 3 = .ok (.invokevirtual 25, 3) := dk_A_set_b0 (3, .invokevirtual 25, 3) (List.mem_of_getElem? (i := 3) rfl)
theorem dd_A_set_6 : decode mt_A_set.cc 6 = .ok (.goto 7, 3) := dk_A_set_b0 (6, .goto 7, 3) (List.mem_of_getElem? (i := 4) rfl)
theorem dd_A_set_9 : decode mt_A_set.cc 9 = .ok (.astore 4, 2) := dk_A_set_b0 (9, .astore 4, 2) (List.mem_of_getElem? (i := 5) rfl)
theorem dd_A_set_11 : decode mt_A_set.cc 11 = .ok (.iconst 1, 1) := dk_A_set_b0 (11, .iconst 1, 1) (List.mem_of_getElem? (i := 6) rfl)
theorem dd_A_set_12 : decode mt_A_set.cc 12 = .ok (.ireturn, 1) := dk_A_set_b0 (12, .ireturn, 1) (List.mem_of_getElem? (i := 7) rfl)
theorem dd_A_set_13 : decode mt_A_set.cc 13 = .ok (.iconst 0, 1) := dk_A_set_b0 (13, .iconst 0, 1) (List.mem_of_getElem? (i := 8) rfl)
theorem dd_A_set_14 : decode mt_A_set.cc 14 = .ok (.ireturn, 1) := dk_A_set_b0 (14, .ireturn, 1) (List.mem_of_getElem? (i := 9) rfl)
theorem cw_A_set : gj_cw mt_A_set ∈ tw_all := mw_353
theorem pl_A_set : gj_plain mt_A_set.y := ⟨by decide +kernel, by decide +kernel⟩
theorem pn_A_set : plainName mt_A_set.y.cls = true := by decide +kernel
theorem np_A_set : gj_np mt_A_set.y = some 3 := by decide +kernel
def mt_A_text : Mt := (⟨"TruthBenchLaw", "text", "(LTruthBench;I)I"⟩, method_7_code, 3, some .int, [(0, 5, 8, 19)])
def dl_A_text_b0 : List (Nat × Instr × Nat) := [(0, .aload_n 0, 1), (1, .iload_n 1, 1), (2, .invokevirtual 29, 3), (5, .goto 6, 3), (8, .astore_n 2, 1), (9, .iconst 1, 1), (10, .ireturn, 1), (11, .iconst 0, 1), (12, .ireturn, 1)]
set_option maxRecDepth 100000 in
theorem dk_A_text_b0 : ∀ q ∈ dl_A_text_b0, decode mt_A_text.cc q.1 = .ok (q.2.1, q.2.2) := by decide +kernel
theorem dd_A_text_0 : decode mt_A_text.cc 0 = .ok (.aload_n 0, 1) := dk_A_text_b0 (0, .aload_n 0, 1) (List.mem_of_getElem? (i := 0) rfl)
theorem dd_A_text_1 : decode mt_A_text.cc 1 = .ok (.iload_n 1, 1) := dk_A_text_b0 (1, .iload_n 1, 1) (List.mem_of_getElem? (i := 1) rfl)
theorem dd_A_text_2 : decode mt_A_text.cc 2 = .ok (.invokevirtual 29, 3) := dk_A_text_b0 (2, .invokevirtual 29, 3) (List.mem_of_getElem? (i := 2) rfl)
theorem dd_A_text_5 : decode mt_A_text.cc 5 = .ok (.goto 6, 3) := dk_A_text_b0 (5, .goto 6, 3) (List.mem_of_getElem? (i := 3) rfl)
theorem dd_A_text_8 : decode mt_A_text.cc 8 = .ok (.astore_n 2, 1) := dk_A_text_b0 (8, .astore_n 2, 1) (List.mem_of_getElem? (i := 4) rfl)
theorem dd_A_text_9 : decode mt_A_text.cc 9 = .ok (.iconst 1, 1) := dk_A_text_b0 (9, .iconst 1, 1) (List.mem_of_getElem? (i := 5) rfl)
theorem dd_A_text_10 : decode mt_A_text.cc 10 = .ok (.ireturn, 1) := dk_A_text_b0 (10, .ireturn, 1) (List.mem_of_getElem? (i := 6) rfl)
theorem dd_A_text_11 : decode mt_A_text.cc 11 = .ok (.iconst 0, 1) := dk_A_text_b0 (11, .iconst 0, 1) (List.mem_of_getElem? (i := 7) rfl)
theorem dd_A_text_12 : decode mt_A_text.cc 12 = .ok (.ireturn, 1) := dk_A_text_b0 (12, .ireturn, 1) (List.mem_of_getElem? (i := 8) rfl)
theorem cw_A_text : gj_cw mt_A_text ∈ tw_all := mw_369
theorem pl_A_text : gj_plain mt_A_text.y := ⟨by decide +kernel, by decide +kernel⟩
theorem pn_A_text : plainName mt_A_text.y.cls = true := by decide +kernel
theorem np_A_text : gj_np mt_A_text.y = some 2 := by decide +kernel
def mt_A_read : Mt := (⟨"TruthBenchLaw", "read", "(LTruthBench;[J)I"⟩, method_8_code, 3, some .int, [(0, 8, 11, 37)])
def dl_A_read_b0 : List (Nat × Instr × Nat) := [(0, .aload_n 1, 1), (1, .iconst 0, 1), (2, .aload_n 0, 1), (3, .invokevirtual 33, 3), (6, .i2l, 1), (7, .lastore, 1), (8, .goto 6, 3), (11, .astore_n 2, 1), (12, .iconst 1, 1), (13, .ireturn, 1), (14, .iconst 0, 1), (15, .ireturn, 1)]
set_option maxRecDepth 100000 in
theorem dk_A_read_b0 : ∀ q ∈ dl_A_read_b0, decode mt_A_read.cc q.1 = .ok (q.2.1, q.2.2) := by decide +kernel
theorem dd_A_read_0 : decode mt_A_read.cc 0 = .ok (.aload_n 1, 1) := dk_A_read_b0 (0, .aload_n 1, 1) (List.mem_of_getElem? (i := 0) rfl)
theorem dd_A_read_1 : decode mt_A_read.cc 1 = .ok (.iconst 0, 1) := dk_A_read_b0 (1, .iconst 0, 1) (List.mem_of_getElem? (i := 1) rfl)
theorem dd_A_read_2 : decode mt_A_read.cc 2 = .ok (.aload_n 0, 1) := dk_A_read_b0 (2, .aload_n 0, 1) (List.mem_of_getElem? (i := 2) rfl)
theorem dd_A_read_3 : decode mt_A_read.cc 3 = .ok (.invokevirtual 33, 3) := dk_A_read_b0 (3, .invokevirtual 33, 3) (List.mem_of_getElem? (i := 3) rfl)
theorem dd_A_read_6 : decode mt_A_read.cc 6 = .ok (.i2l, 1) := dk_A_read_b0 (6, .i2l, 1) (List.mem_of_getElem? (i := 4) rfl)
theorem dd_A_read_7 : decode mt_A_read.cc 7 = .ok (.lastore, 1) := dk_A_read_b0 (7, .lastore, 1) (List.mem_of_getElem? (i := 5) rfl)
theorem dd_A_read_8 : decode mt_A_read.cc 8 = .ok (.goto 6, 3) := dk_A_read_b0 (8, .goto 6, 3) (List.mem_of_getElem? (i := 6) rfl)
theorem dd_A_read_11 : decode mt_A_read.cc 11 = .ok (.astore_n 2, 1) := dk_A_read_b0 (11, .astore_n 2, 1) (List.mem_of_getElem? (i := 7) rfl)
theorem dd_A_read_12 : decode mt_A_read.cc 12 = .ok (.iconst 1, 1) := dk_A_read_b0 (12, .iconst 1, 1) (List.mem_of_getElem? (i := 8) rfl)
theorem dd_A_read_13 : decode mt_A_read.cc 13 = .ok (.ireturn, 1) := dk_A_read_b0 (13, .ireturn, 1) (List.mem_of_getElem? (i := 9) rfl)
theorem dd_A_read_14 : decode mt_A_read.cc 14 = .ok (.iconst 0, 1) := dk_A_read_b0 (14, .iconst 0, 1) (List.mem_of_getElem? (i := 10) rfl)
theorem dd_A_read_15 : decode mt_A_read.cc 15 = .ok (.ireturn, 1) := dk_A_read_b0 (15, .ireturn, 1) (List.mem_of_getElem? (i := 11) rfl)
theorem cw_A_read : gj_cw mt_A_read ∈ tw_all := mw_392
theorem pl_A_read : gj_plain mt_A_read.y := ⟨by decide +kernel, by decide +kernel⟩
theorem pn_A_read : plainName mt_A_read.y.cls = true := by decide +kernel
theorem np_A_read : gj_np mt_A_read.y = some 2 := by decide +kernel
def mt_A_kind : Mt := (⟨"TruthBenchLaw", "kind", "(LTruthBench;[J)I"⟩, method_9_code, 3, some .int, [(0, 8, 11, 42), (0, 8, 14, 44)])
def dl_A_kind_b0 : List (Nat × Instr × Nat) := [(0, .aload_n 1, 1), (1, .iconst 0, 1), (2, .aload_n 0, 1), (3, .invokevirtual 39, 3), (6, .i2l, 1), (7, .lastore, 1), (8, .goto 9, 3), (11, .astore_n 2, 1), (12, .iconst 1, 1), (13, .ireturn, 1), (14, .astore_n 2, 1), (15, .iconst 2, 1), (16, .ireturn, 1), (17, .iconst 0, 1), (18, .ireturn, 1)]
set_option maxRecDepth 100000 in
theorem dk_A_kind_b0 : ∀ q ∈ dl_A_kind_b0, decode mt_A_kind.cc q.1 = .ok (q.2.1, q.2.2) := by decide +kernel
theorem dd_A_kind_0 : decode mt_A_kind.cc 0 = .ok (.aload_n 1, 1) := dk_A_kind_b0 (0, .aload_n 1, 1) (List.mem_of_getElem? (i := 0) rfl)
theorem dd_A_kind_1 : decode mt_A_kind.cc 1 = .ok (.iconst 0, 1) := dk_A_kind_b0 (1, .iconst 0, 1) (List.mem_of_getElem? (i := 1) rfl)
theorem dd_A_kind_2 : decode mt_A_kind.cc 2 = .ok (.aload_n 0, 1) := dk_A_kind_b0 (2, .aload_n 0, 1) (List.mem_of_getElem? (i := 2) rfl)
theorem dd_A_kind_3 : decode mt_A_kind.cc 3 = .ok (.invokevirtual 39, 3) := dk_A_kind_b0 (3, .invokevirtual 39, 3) (List.mem_of_getElem? (i := 3) rfl)
theorem dd_A_kind_6 : decode mt_A_kind.cc 6 = .ok (.i2l, 1) := dk_A_kind_b0 (6, .i2l, 1) (List.mem_of_getElem? (i := 4) rfl)
theorem dd_A_kind_7 : decode mt_A_kind.cc 7 = .ok (.lastore, 1) := dk_A_kind_b0 (7, .lastore, 1) (List.mem_of_getElem? (i := 5) rfl)
theorem dd_A_kind_8 : decode mt_A_kind.cc 8 = .ok (.goto 9, 3) := dk_A_kind_b0 (8, .goto 9, 3) (List.mem_of_getElem? (i := 6) rfl)
theorem dd_A_kind_11 : decode mt_A_kind.cc 11 = .ok (.astore_n 2, 1) := dk_A_kind_b0 (11, .astore_n 2, 1) (List.mem_of_getElem? (i := 7) rfl)
theorem dd_A_kind_12 : decode mt_A_kind.cc 12 = .ok (.iconst 1, 1) := dk_A_kind_b0 (12, .iconst 1, 1) (List.mem_of_getElem? (i := 8) rfl)
theorem dd_A_kind_13 : decode mt_A_kind.cc 13 = .ok (.ireturn, 1) := dk_A_kind_b0 (13, .ireturn, 1) (List.mem_of_getElem? (i := 9) rfl)
theorem dd_A_kind_14 : decode mt_A_kind.cc 14 = .ok (.astore_n 2, 1) := dk_A_kind_b0 (14, .astore_n 2, 1) (List.mem_of_getElem? (i := 10) rfl)
theorem dd_A_kind_15 : decode mt_A_kind.cc 15 = .ok (.iconst 2, 1) := dk_A_kind_b0 (15, .iconst 2, 1) (List.mem_of_getElem? (i := 11) rfl)
theorem dd_A_kind_16 : decode mt_A_kind.cc 16 = .ok (.ireturn, 1) := dk_A_kind_b0 (16, .ireturn, 1) (List.mem_of_getElem? (i := 12) rfl)
theorem dd_A_kind_17 : decode mt_A_kind.cc 17 = .ok (.iconst 0, 1) := dk_A_kind_b0 (17, .iconst 0, 1) (List.mem_of_getElem? (i := 13) rfl)
theorem dd_A_kind_18 : decode mt_A_kind.cc 18 = .ok (.ireturn, 1) := dk_A_kind_b0 (18, .ireturn, 1) (List.mem_of_getElem? (i := 14) rfl)
theorem cw_A_kind : gj_cw mt_A_kind ∈ tw_all := mw_796
theorem pl_A_kind : gj_plain mt_A_kind.y := ⟨by decide +kernel, by decide +kernel⟩
theorem pn_A_kind : plainName mt_A_kind.y.cls = true := by decide +kernel
theorem np_A_kind : gj_np mt_A_kind.y = some 2 := by decide +kernel
def mt_A_work : Mt := (⟨"TruthBenchLaw", "work", "(LTruthBench;[J)I"⟩, method_10_code, 3, some .int, [(0, 8, 11, 42), (0, 8, 14, 44)])
def dl_A_work_b0 : List (Nat × Instr × Nat) := [(0, .aload_n 1, 1), (1, .iconst 0, 1), (2, .aload_n 0, 1), (3, .invokevirtual 46, 3), (6, .i2l, 1), (7, .lastore, 1), (8, .goto 9, 3), (11, .astore_n 2, 1), (12, .iconst 1, 1), (13, .ireturn, 1), (14, .astore_n 2, 1), (15, .iconst 2, 1), (16, .ireturn, 1), (17, .iconst 0, 1), (18, .ireturn, 1)]
set_option maxRecDepth 100000 in
theorem dk_A_work_b0 : ∀ q ∈ dl_A_work_b0, decode mt_A_work.cc q.1 = .ok (q.2.1, q.2.2) := by decide +kernel
theorem dd_A_work_0 : decode mt_A_work.cc 0 = .ok (.aload_n 1, 1) := dk_A_work_b0 (0, .aload_n 1, 1) (List.mem_of_getElem? (i := 0) rfl)
theorem dd_A_work_1 : decode mt_A_work.cc 1 = .ok (.iconst 0, 1) := dk_A_work_b0 (1, .iconst 0, 1) (List.mem_of_getElem? (i := 1) rfl)
theorem dd_A_work_2 : decode mt_A_work.cc 2 = .ok (.aload_n 0, 1) := dk_A_work_b0 (2, .aload_n 0, 1) (List.mem_of_getElem? (i := 2) rfl)
theorem dd_A_work_3 : decode mt_A_work.cc 3 = .ok (.invokevirtual 46, 3) := dk_A_work_b0 (3, .invokevirtual 46, 3) (List.mem_of_getElem? (i := 3) rfl)
theorem dd_A_work_6 : decode mt_A_work.cc 6 = .ok (.i2l, 1) := dk_A_work_b0 (6, .i2l, 1) (List.mem_of_getElem? (i := 4) rfl)
theorem dd_A_work_7 : decode mt_A_work.cc 7 = .ok (.lastore, 1) := dk_A_work_b0 (7, .lastore, 1) (List.mem_of_getElem? (i := 5) rfl)
theorem dd_A_work_8 : decode mt_A_work.cc 8 = .ok (.goto 9, 3) := dk_A_work_b0 (8, .goto 9, 3) (List.mem_of_getElem? (i := 6) rfl)
theorem dd_A_work_11 : decode mt_A_work.cc 11 = .ok (.astore_n 2, 1) := dk_A_work_b0 (11, .astore_n 2, 1) (List.mem_of_getElem? (i := 7) rfl)
theorem dd_A_work_12 : decode mt_A_work.cc 12 = .ok (.iconst 1, 1) := dk_A_work_b0 (12, .iconst 1, 1) (List.mem_of_getElem? (i := 8) rfl)
theorem dd_A_work_13 : decode mt_A_work.cc 13 = .ok (.ireturn, 1) := dk_A_work_b0 (13, .ireturn, 1) (List.mem_of_getElem? (i := 9) rfl)
theorem dd_A_work_14 : decode mt_A_work.cc 14 = .ok (.astore_n 2, 1) := dk_A_work_b0 (14, .astore_n 2, 1) (List.mem_of_getElem? (i := 10) rfl)
theorem dd_A_work_15 : decode mt_A_work.cc 15 = .ok (.iconst 2, 1) := dk_A_work_b0 (15, .iconst 2, 1) (List.mem_of_getElem? (i := 11) rfl)
theorem dd_A_work_16 : decode mt_A_work.cc 16 = .ok (.ireturn, 1) := dk_A_work_b0 (16, .ireturn, 1) (List.mem_of_getElem? (i := 12) rfl)
theorem dd_A_work_17 : decode mt_A_work.cc 17 = .ok (.iconst 0, 1) := dk_A_work_b0 (17, .iconst 0, 1) (List.mem_of_getElem? (i := 13) rfl)
theorem dd_A_work_18 : decode mt_A_work.cc 18 = .ok (.ireturn, 1) := dk_A_work_b0 (18, .ireturn, 1) (List.mem_of_getElem? (i := 14) rfl)
theorem cw_A_work : gj_cw mt_A_work ∈ tw_all := mw_880
theorem pl_A_work : gj_plain mt_A_work.y := ⟨by decide +kernel, by decide +kernel⟩
theorem pn_A_work : plainName mt_A_work.y.cls = true := by decide +kernel
theorem np_A_work : gj_np mt_A_work.y = some 2 := by decide +kernel
def mt_A_keep : Mt := (⟨"TruthBenchLaw", "keep", "(LTruthBench;I[J)I"⟩, method_11_code, 4, some .int, [(0, 9, 12, 19)])
def dl_A_keep_b0 : List (Nat × Instr × Nat) := [(0, .aload_n 2, 1), (1, .iconst 0, 1), (2, .aload_n 0, 1), (3, .iload_n 1, 1), (4, .invokevirtual 49, 3), (7, .i2l, 1), (8, .lastore, 1), (9, .goto 6, 3), (12, .astore_n 3, 1), (13, .iconst 1, 1), (14, .ireturn, 1), (15, .iconst 0, 1), (16, .ireturn, 1)]
set_option maxRecDepth 100000 in
theorem dk_A_keep_b0 : ∀ q ∈ dl_A_keep_b0, decode mt_A_keep.cc q.1 = .ok (q.2.1, q.2.2) := by decide +kernel
theorem dd_A_keep_0 : decode mt_A_keep.cc 0 = .ok (.aload_n 2, 1) := dk_A_keep_b0 (0, .aload_n 2, 1) (List.mem_of_getElem? (i := 0) rfl)
theorem dd_A_keep_1 : decode mt_A_keep.cc 1 = .ok (.iconst 0, 1) := dk_A_keep_b0 (1, .iconst 0, 1) (List.mem_of_getElem? (i := 1) rfl)
theorem dd_A_keep_2 : decode mt_A_keep.cc 2 = .ok (.aload_n 0, 1) := dk_A_keep_b0 (2, .aload_n 0, 1) (List.mem_of_getElem? (i := 2) rfl)
theorem dd_A_keep_3 : decode mt_A_keep.cc 3 = .ok (.iload_n 1, 1) := dk_A_keep_b0 (3, .iload_n 1, 1) (List.mem_of_getElem? (i := 3) rfl)
theorem dd_A_keep_4 : decode mt_A_keep.cc 4 = .ok (.invokevirtual 49, 3) := dk_A_keep_b0 (4, .invokevirtual 49, 3) (List.mem_of_getElem? (i := 4) rfl)
theorem dd_A_keep_7 : decode mt_A_keep.cc 7 = .ok (.i2l, 1) := dk_A_keep_b0 (7, .i2l, 1) (List.mem_of_getElem? (i := 5) rfl)
theorem dd_A_keep_8 : decode mt_A_keep.cc 8 = .ok (.lastore, 1) := dk_A_keep_b0 (8, .lastore, 1) (List.mem_of_getElem? (i := 6) rfl)
theorem dd_A_keep_9 : decode mt_A_keep.cc 9 = .ok (.goto 6, 3) := dk_A_keep_b0 (9, .goto 6, 3) (List.mem_of_getElem? (i := 7) rfl)
theorem dd_A_keep_12 : decode mt_A_keep.cc 12 = .ok (.astore_n 3, 1) := dk_A_keep_b0 (12, .astore_n 3, 1) (List.mem_of_getElem? (i := 8) rfl)
theorem dd_A_keep_13 : decode mt_A_keep.cc 13 = .ok (.iconst 1, 1) := dk_A_keep_b0 (13, .iconst 1, 1) (List.mem_of_getElem? (i := 9) rfl)
theorem dd_A_keep_14 : decode mt_A_keep.cc 14 = .ok (.ireturn, 1) := dk_A_keep_b0 (14, .ireturn, 1) (List.mem_of_getElem? (i := 10) rfl)
theorem dd_A_keep_15 : decode mt_A_keep.cc 15 = .ok (.iconst 0, 1) := dk_A_keep_b0 (15, .iconst 0, 1) (List.mem_of_getElem? (i := 11) rfl)
theorem dd_A_keep_16 : decode mt_A_keep.cc 16 = .ok (.ireturn, 1) := dk_A_keep_b0 (16, .ireturn, 1) (List.mem_of_getElem? (i := 12) rfl)
theorem cw_A_keep : gj_cw mt_A_keep ∈ tw_all := mw_1042
theorem pl_A_keep : gj_plain mt_A_keep.y := ⟨by decide +kernel, by decide +kernel⟩
theorem pn_A_keep : plainName mt_A_keep.y.cls = true := by decide +kernel
theorem np_A_keep : gj_np mt_A_keep.y = some 3 := by decide +kernel
def mt_A_value : Mt := (⟨"TruthBenchLaw", "value", "(LTruthBench;I[J)I"⟩, method_12_code, 4, some .int, [(0, 8, 11, 19)])
def dl_A_value_b0 : List (Nat × Instr × Nat) := [(0, .aload_n 2, 1), (1, .iconst 0, 1), (2, .aload_n 0, 1), (3, .iload_n 1, 1), (4, .invokevirtual 52, 3), (7, .lastore, 1), (8, .goto 6, 3), (11, .astore_n 3, 1), (12, .iconst 1, 1), (13, .ireturn, 1), (14, .iconst 0, 1), (15, .ireturn, 1)]
set_option maxRecDepth 100000 in
theorem dk_A_value_b0 : ∀ q ∈ dl_A_value_b0, decode mt_A_value.cc q.1 = .ok (q.2.1, q.2.2) := by decide +kernel
theorem dd_A_value_0 : decode mt_A_value.cc 0 = .ok (.aload_n 2, 1) := dk_A_value_b0 (0, .aload_n 2, 1) (List.mem_of_getElem? (i := 0) rfl)
theorem dd_A_value_1 : decode mt_A_value.cc 1 = .ok (.iconst 0, 1) := dk_A_value_b0 (1, .iconst 0, 1) (List.mem_of_getElem? (i := 1) rfl)
theorem dd_A_value_2 : decode mt_A_value.cc 2 = .ok (.aload_n 0, 1) := dk_A_value_b0 (2, .aload_n 0, 1) (List.mem_of_getElem? (i := 2) rfl)
theorem dd_A_value_3 : decode mt_A_value.cc 3 = .ok (.iload_n 1, 1) := dk_A_value_b0 (3, .iload_n 1, 1) (List.mem_of_getElem? (i := 3) rfl)
theorem dd_A_value_4 : decode mt_A_value.cc 4 = .ok (.invokevirtual 52, 3) := dk_A_value_b0 (4, .invokevirtual 52, 3) (List.mem_of_getElem? (i := 4) rfl)
theorem dd_A_value_7 : decode mt_A_value.cc 7 = .ok (.lastore, 1) := dk_A_value_b0 (7, .lastore, 1) (List.mem_of_getElem? (i := 5) rfl)
theorem dd_A_value_8 : decode mt_A_value.cc 8 = .ok (.goto 6, 3) := dk_A_value_b0 (8, .goto 6, 3) (List.mem_of_getElem? (i := 6) rfl)
theorem dd_A_value_11 : decode mt_A_value.cc 11 = .ok (.astore_n 3, 1) := dk_A_value_b0 (11, .astore_n 3, 1) (List.mem_of_getElem? (i := 7) rfl)
theorem dd_A_value_12 : decode mt_A_value.cc 12 = .ok (.iconst 1, 1) := dk_A_value_b0 (12, .iconst 1, 1) (List.mem_of_getElem? (i := 8) rfl)
theorem dd_A_value_13 : decode mt_A_value.cc 13 = .ok (.ireturn, 1) := dk_A_value_b0 (13, .ireturn, 1) (List.mem_of_getElem? (i := 9) rfl)
theorem dd_A_value_14 : decode mt_A_value.cc 14 = .ok (.iconst 0, 1) := dk_A_value_b0 (14, .iconst 0, 1) (List.mem_of_getElem? (i := 10) rfl)
theorem dd_A_value_15 : decode mt_A_value.cc 15 = .ok (.ireturn, 1) := dk_A_value_b0 (15, .ireturn, 1) (List.mem_of_getElem? (i := 11) rfl)
theorem cw_A_value : gj_cw mt_A_value ∈ tw_all := mw_1049
theorem pl_A_value : gj_plain mt_A_value.y := ⟨by decide +kernel, by decide +kernel⟩
theorem pn_A_value : plainName mt_A_value.y.cls = true := by decide +kernel
theorem np_A_value : gj_np mt_A_value.y = some 3 := by decide +kernel
def mt_A_count : Mt := (⟨"TruthBenchLaw", "count", "(LTruthBench;I[J)I"⟩, method_13_code, 4, some .int, [(0, 9, 12, 19)])
def dl_A_count_b0 : List (Nat × Instr × Nat) := [(0, .aload_n 2, 1), (1, .iconst 0, 1), (2, .aload_n 0, 1), (3, .iload_n 1, 1), (4, .invokevirtual 56, 3), (7, .i2l, 1), (8, .lastore, 1), (9, .goto 6, 3), (12, .astore_n 3, 1), (13, .iconst 1, 1), (14, .ireturn, 1), (15, .iconst 0, 1), (16, .ireturn, 1)]
set_option maxRecDepth 100000 in
theorem dk_A_count_b0 : ∀ q ∈ dl_A_count_b0, decode mt_A_count.cc q.1 = .ok (q.2.1, q.2.2) := by decide +kernel
theorem dd_A_count_0 : decode mt_A_count.cc 0 = .ok (.aload_n 2, 1) := dk_A_count_b0 (0, .aload_n 2, 1) (List.mem_of_getElem? (i := 0) rfl)
theorem dd_A_count_1 : decode mt_A_count.cc 1 = .ok (.iconst 0, 1) := dk_A_count_b0 (1, .iconst 0, 1) (List.mem_of_getElem? (i := 1) rfl)
theorem dd_A_count_2 : decode mt_A_count.cc 2 = .ok (.aload_n 0, 1) := dk_A_count_b0 (2, .aload_n 0, 1) (List.mem_of_getElem? (i := 2) rfl)
theorem dd_A_count_3 : decode mt_A_count.cc 3 = .ok (.iload_n 1, 1) := dk_A_count_b0 (3, .iload_n 1, 1) (List.mem_of_getElem? (i := 3) rfl)
theorem dd_A_count_4 : decode mt_A_count.cc 4 = .ok (.invokevirtual 56, 3) := dk_A_count_b0 (4, .invokevirtual 56, 3) (List.mem_of_getElem? (i := 4) rfl)
theorem dd_A_count_7 : decode mt_A_count.cc 7 = .ok (.i2l, 1) := dk_A_count_b0 (7, .i2l, 1) (List.mem_of_getElem? (i := 5) rfl)
theorem dd_A_count_8 : decode mt_A_count.cc 8 = .ok (.lastore, 1) := dk_A_count_b0 (8, .lastore, 1) (List.mem_of_getElem? (i := 6) rfl)
theorem dd_A_count_9 : decode mt_A_count.cc 9 = .ok (.goto 6, 3) := dk_A_count_b0 (9, .goto 6, 3) (List.mem_of_getElem? (i := 7) rfl)
theorem dd_A_count_12 : decode mt_A_count.cc 12 = .ok (.astore_n 3, 1) := dk_A_count_b0 (12, .astore_n 3, 1) (List.mem_of_getElem? (i := 8) rfl)
theorem dd_A_count_13 : decode mt_A_count.cc 13 = .ok (.iconst 1, 1) := dk_A_count_b0 (13, .iconst 1, 1) (List.mem_of_getElem? (i := 9) rfl)
theorem dd_A_count_14 : decode mt_A_count.cc 14 = .ok (.ireturn, 1) := dk_A_count_b0 (14, .ireturn, 1) (List.mem_of_getElem? (i := 10) rfl)
theorem dd_A_count_15 : decode mt_A_count.cc 15 = .ok (.iconst 0, 1) := dk_A_count_b0 (15, .iconst 0, 1) (List.mem_of_getElem? (i := 11) rfl)
theorem dd_A_count_16 : decode mt_A_count.cc 16 = .ok (.ireturn, 1) := dk_A_count_b0 (16, .ireturn, 1) (List.mem_of_getElem? (i := 12) rfl)
theorem cw_A_count : gj_cw mt_A_count ∈ tw_all := mw_1060
theorem pl_A_count : gj_plain mt_A_count.y := ⟨by decide +kernel, by decide +kernel⟩
theorem pn_A_count : plainName mt_A_count.y.cls = true := by decide +kernel
theorem np_A_count : gj_np mt_A_count.y = some 3 := by decide +kernel
