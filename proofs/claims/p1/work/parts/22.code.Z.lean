def mt_Z_ofWord : Mt := (⟨"TruthBench$Sign", "ofWord", "([BII)LTruthBench$Sign;"⟩, prog_8_method_4_code, 4, some (.object "TruthBench$Sign"), [])
def dl_Z_ofWord_b0 : List (Nat × Instr × Nat) := [(0, .iconst 0, 1), (1, .istore_n 3, 1), (2, .iload_n 3, 1), (3, .getstatic 132, 3), (6, .arraylength, 1), (7, .if_icmp .ge 32, 3), (10, .aload_n 0, 1), (11, .iload_n 1, 1), (12, .iload_n 2, 1), (13, .getstatic 132, 3), (16, .iload_n 3, 1), (17, .aaload, 1), (18, .getfield 128, 3), (21, .invokestatic 135, 3), (24, .ifCond .eq 9, 3), (27, .getstatic 132, 3), (30, .iload_n 3, 1), (31, .aaload, 1), (32, .areturn, 1), (33, .iinc 3 1, 3), (36, .goto (-34), 3), (39, .getstatic 49, 3), (42, .areturn, 1)]
set_option maxRecDepth 100000 in
theorem dk_Z_ofWord_b0 : ∀ q ∈ dl_Z_ofWord_b0, decode mt_Z_ofWord.cc q.1 = .ok (q.2.1, q.2.2) := by decide +kernel
theorem dd_Z_ofWord_0 : decode mt_Z_ofWord.cc 0 = .ok (.iconst 0, 1) := dk_Z_ofWord_b0 (0, .iconst 0, 1) (List.mem_of_getElem? (i := 0) rfl)
theorem dd_Z_ofWord_1 : decode mt_Z_ofWord.cc 1 = .ok (.istore_n 3, 1) := dk_Z_ofWord_b0 (1, .istore_n 3, 1) (List.mem_of_getElem? (i := 1) rfl)
theorem dd_Z_ofWord_2 : decode mt_Z_ofWord.cc 2 = .ok (.iload_n 3, 1) := dk_Z_ofWord_b0 (2, .iload_n 3, 1) (List.mem_of_getElem? (i := 2) rfl)
theorem dd_Z_ofWord_3 : decode mt_Z_ofWord.cc 3 = .ok (.getstatic 132, 3) := dk_Z_ofWord_b0 (3, .getstatic 132, 3) (List.mem_of_getElem? (i := 3) rfl)
theorem dd_Z_ofWord_6 : decode mt_Z_ofWord.cc 6 = .ok (.arraylength, 1) := dk_Z_ofWord_b0 (6, .arraylength, 1) (List.mem_of_getElem? (i := 4) rfl)
theorem dd_Z_ofWord_7 : decode mt_Z_ofWord.cc 7 = .ok (.if_icmp .ge 32, 3) := dk_Z_ofWord_b0 (7, .if_icmp .ge 32, 3) (List.mem_of_getElem? (i := 5) rfl)
theorem dd_Z_ofWord_10 : decode mt_Z_ofWord.cc 10 = .ok (.aload_n 0, 1) := dk_Z_ofWord_b0 (10, .aload_n 0, 1) (List.mem_of_getElem? (i := 6) rfl)
theorem dd_Z_ofWord_11 : decode mt_Z_ofWord.cc 11 = .ok (.iload_n 1, 1) := dk_Z_ofWord_b0 (11, .iload_n 1, 1) (List.mem_of_getElem? (i := 7) rfl)
theorem dd_Z_ofWord_12 : decode mt_Z_ofWord.cc 12 = .ok (.iload_n 2, 1) := dk_Z_ofWord_b0 (12, .iload_n 2, 1) (List.mem_of_getElem? (i := 8) rfl)
theorem dd_Z_ofWord_13 : decode mt_Z_ofWord.cc 13 = .ok (.getstatic 132, 3) := dk_Z_ofWord_b0 (13, .getstatic 132, 3) (List.mem_of_getElem? (i := 9) rfl)
theorem dd_Z_ofWord_16 : decode mt_Z_ofWord.cc 16 = .ok (.iload_n 3, 1) := dk_Z_ofWord_b0 (16, .iload_n 3, 1) (List.mem_of_getElem? (i := 10) rfl)
theorem dd_Z_ofWord_17 : decode mt_Z_ofWord.cc 17 = .ok (.aaload, 1) := dk_Z_ofWord_b0 (17, .aaload, 1) (List.mem_of_getElem? (i := 11) rfl)
theorem dd_Z_ofWord_18 : decode mt_Z_ofWord.cc 18 = .ok (.getfield 128, 3) := dk_Z_ofWord_b0 (18, .getfield 128, 3) (List.mem_of_getElem? (i := 12) rfl)
theorem dd_Z_ofWord_21 : decode mt_Z_ofWord.cc 21 = .ok (.invokestatic 135, 3) := dk_Z_ofWord_b0 (21, .invokestatic 135, 3) (List.mem_of_getElem? (i := 13) rfl)
theorem dd_Z_ofWord_24 : decode mt_Z_ofWord.cc 24 = .ok (.ifCond .eq 9, 3) := dk_Z_ofWord_b0 (24, .ifCond .eq 9, 3) (List.mem_of_getElem? (i := 14) rfl)
theorem dd_Z_ofWord_27 : decode mt_Z_ofWord.cc 27 = .ok (.getstatic 132, 3) := dk_Z_ofWord_b0 (27, .getstatic 132, 3) (List.mem_of_getElem? (i := 15) rfl)
theorem dd_Z_ofWord_30 : decode mt_Z_ofWord.cc 30 = .ok (.iload_n 3, 1) := dk_Z_ofWord_b0 (30, .iload_n 3, 1) (List.mem_of_getElem? (i := 16) rfl)
theorem dd_Z_ofWord_31 : decode mt_Z_ofWord.cc 31 = .ok (.aaload, 1) := dk_Z_ofWord_b0 (31, .aaload, 1) (List.mem_of_getElem? (i := 17) rfl)
theorem dd_Z_ofWord_32 : decode mt_Z_ofWord.cc 32 = .ok (.areturn, 1) := dk_Z_ofWord_b0 (32, .areturn, 1) (List.mem_of_getElem? (i := 18) rfl)
theorem dd_Z_ofWord_33 : decode mt_Z_ofWord.cc 33 = .ok (.iinc 3 1, 3) := dk_Z_ofWord_b0 (33, .iinc 3 1, 3) (List.mem_of_getElem? (i := 19) rfl)
theorem dd_Z_ofWord_36 : decode mt_Z_ofWord.cc 36 = .ok (.goto (-34), 3) := dk_Z_ofWord_b0 (36, .goto (-34), 3) (List.mem_of_getElem? (i := 20) rfl)
theorem dd_Z_ofWord_39 : decode mt_Z_ofWord.cc 39 = .ok (.getstatic 49, 3) := dk_Z_ofWord_b0 (39, .getstatic 49, 3) (List.mem_of_getElem? (i := 21) rfl)
theorem dd_Z_ofWord_42 : decode mt_Z_ofWord.cc 42 = .ok (.areturn, 1) := dk_Z_ofWord_b0 (42, .areturn, 1) (List.mem_of_getElem? (i := 22) rfl)
theorem cw_Z_ofWord : gj_cw mt_Z_ofWord ∈ tw_all := mw_440
theorem pl_Z_ofWord : gj_plain mt_Z_ofWord.y := ⟨by decide +kernel, by decide +kernel⟩
theorem pn_Z_ofWord : plainName mt_Z_ofWord.y.cls = true := by decide +kernel
theorem np_Z_ofWord : gj_np mt_Z_ofWord.y = some 3 := by decide +kernel
