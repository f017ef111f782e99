def mt_JEnum_ordinal : Mt := (⟨"java/lang/Enum", "ordinal", "()I"⟩, prog_20_method_2_code, 1, some .int, [])
def dl_JEnum_ordinal_b0 : List (Nat × Instr × Nat) := [(0, .aload_n 0, 1), (1, .getfield 7, 3), (4, .ireturn, 1)]
set_option maxRecDepth 100000 in
theorem dk_JEnum_ordinal_b0 : ∀ q ∈ dl_JEnum_ordinal_b0, decode mt_JEnum_ordinal.cc q.1 = .ok (q.2.1, q.2.2) := by decide +kernel
theorem dd_JEnum_ordinal_0 : decode mt_JEnum_ordinal.cc 0 = .ok (.aload_n 0, 1) := dk_JEnum_ordinal_b0 (0, .aload_n 0, 1) (List.mem_of_getElem? (i := 0) rfl)
theorem dd_JEnum_ordinal_1 : decode mt_JEnum_ordinal.cc 1 = .ok (.getfield 7, 3) := dk_JEnum_ordinal_b0 (1, .getfield 7, 3) (List.mem_of_getElem? (i := 1) rfl)
theorem dd_JEnum_ordinal_4 : decode mt_JEnum_ordinal.cc 4 = .ok (.ireturn, 1) := dk_JEnum_ordinal_b0 (4, .ireturn, 1) (List.mem_of_getElem? (i := 2) rfl)
theorem cw_JEnum_ordinal : gj_cw mt_JEnum_ordinal ∈ tw_all := mw_607
theorem pl_JEnum_ordinal : gj_plain mt_JEnum_ordinal.y := ⟨by decide +kernel, by decide +kernel⟩
theorem pn_JEnum_ordinal : plainName mt_JEnum_ordinal.y.cls = true := by decide +kernel
theorem np_JEnum_ordinal : gj_np mt_JEnum_ordinal.y = some 0 := by decide +kernel
