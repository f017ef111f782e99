def mt_JLong_compare : Mt := (⟨"java/lang/Long", "compare", "(JJ)I"⟩, prog_26_method_42_code, 4, some .int, [])
def dl_JLong_compare_b0 : List (Nat × Instr × Nat) := [(0, .lload_n 0, 1), (1, .lload_n 2, 1), (2, .lcmp, 1), (3, .ifCond .ge 7, 3), (6, .iconst (-1), 1), (7, .goto 14, 3), (10, .lload_n 0, 1), (11, .lload_n 2, 1), (12, .lcmp, 1), (13, .ifCond .ne 7, 3), (16, .iconst 0, 1), (17, .goto 4, 3), (20, .iconst 1, 1), (21, .ireturn, 1)]
set_option maxRecDepth 100000 in
theorem dk_JLong_compare_b0 : ∀ q ∈ dl_JLong_compare_b0, decode mt_JLong_compare.cc q.1 = .ok (q.2.1, q.2.2) := by decide +kernel
theorem dd_JLong_compare_0 : decode mt_JLong_compare.cc 0 = .ok (.lload_n 0, 1) := dk_JLong_compare_b0 (0, .lload_n 0, 1) (List.mem_of_getElem? (i := 0) rfl)
theorem dd_JLong_compare_1 : decode mt_JLong_compare.cc 1 = .ok (.lload_n 2, 1) := dk_JLong_compare_b0 (1, .lload_n 2, 1) (List.mem_of_getElem? (i := 1) rfl)
theorem dd_JLong_compare_2 : decode mt_JLong_compare.cc 2 = .ok (.lcmp, 1) := dk_JLong_compare_b0 (2, .lcmp, 1) (List.mem_of_getElem? (i := 2) rfl)
theorem dd_JLong_compare_3 : decode mt_JLong_compare.cc 3 = .ok (.ifCond .ge 7, 3) := dk_JLong_compare_b0 (3, .ifCond .ge 7, 3) (List.mem_of_getElem? (i := 3) rfl)
theorem dd_JLong_compare_6 : decode mt_JLong_compare.cc 6 = .ok (.iconst (-1), 1) := dk_JLong_compare_b0 (6, .iconst (-1), 1) (List.mem_of_getElem? (i := 4) rfl)
theorem dd_JLong_compare_7 : decode mt_JLong_compare.cc 7 = .ok (.goto 14, 3) := dk_JLong_compare_b0 (7, .goto 14, 3) (List.mem_of_getElem? (i := 5) rfl)
theorem dd_JLong_compare_10 : decode mt_JLong_compare.cc 10 = .ok (.lload_n 0, 1) := dk_JLong_compare_b0 (10, .lload_n 0, 1) (List.mem_of_getElem? (i := 6) rfl)
theorem dd_JLong_compare_11 : decode mt_JLong_compare.cc 11 = .ok (.lload_n 2, 1) := dk_JLong_compare_b0 (11, .lload_n 2, 1) (List.mem_of_getElem? (i := 7) rfl)
theorem dd_JLong_compare_12 : decode mt_JLong_compare.cc 12 = .ok (.lcmp, 1) := dk_JLong_compare_b0 (12, .lcmp, 1) (List.mem_of_getElem? (i := 8) rfl)
theorem dd_JLong_compare_13 : decode mt_JLong_compare.cc 13 = .ok (.ifCond .ne 7, 3) := dk_JLong_compare_b0 (13, .ifCond .ne 7, 3) (List.mem_of_getElem? (i := 9) rfl)
theorem dd_JLong_compare_16 : decode mt_JLong_compare.cc 16 = .ok (.iconst 0, 1) := dk_JLong_compare_b0 (16, .iconst 0, 1) (List.mem_of_getElem? (i := 10) rfl)
theorem dd_JLong_compare_17 : decode mt_JLong_compare.cc 17 = .ok (.goto 4, 3) := dk_JLong_compare_b0 (17, .goto 4, 3) (List.mem_of_getElem? (i := 11) rfl)
theorem dd_JLong_compare_20 : decode mt_JLong_compare.cc 20 = .ok (.iconst 1, 1) := dk_JLong_compare_b0 (20, .iconst 1, 1) (List.mem_of_getElem? (i := 12) rfl)
theorem dd_JLong_compare_21 : decode mt_JLong_compare.cc 21 = .ok (.ireturn, 1) := dk_JLong_compare_b0 (21, .ireturn, 1) (List.mem_of_getElem? (i := 13) rfl)
theorem cw_JLong_compare : gj_cw mt_JLong_compare ∈ tw_all := mw_936
theorem pl_JLong_compare : gj_plain mt_JLong_compare.y := ⟨by decide +kernel, by decide +kernel⟩
theorem pn_JLong_compare : plainName mt_JLong_compare.y.cls = true := by decide +kernel
theorem np_JLong_compare : gj_np mt_JLong_compare.y = some 2 := by decide +kernel
