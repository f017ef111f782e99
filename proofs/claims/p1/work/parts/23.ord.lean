/-! ordinal() of the constants. Printed by wip/tools/layc.py. -/
theorem gj_iinc {x c : Int32} {n : Int} (h : Int32.ofInt n = c) : x + Int32.ofInt n = x + c := by rw [h]
theorem go_ord_op {z : State} {l : Launch} {M : Mt} {d pc : Nat} {ls st : List Value} {σ : Hp} {Q : Outcome → Hp → Prop} {op sg : Nat → Nat} {aO aS mO mS : Nat} {k index : Nat} {v : Int32} (hs : gj_St z op sg aO aS mO mS) (hk : k < 43) (hv : nI k = v) (hw1 : Cond.methodLink M.y.cls index ⟨"TruthBench$Op", "ordinal", "()I"⟩ ∈ tw_all) (hd : decode M.cc pc = .ok (.invokevirtual index, 3)) (hdp : 1 ≤ d) (hst : (st.map fun v => v.category).sum ≤ 8)
    (kk : Go z l M d (pc + 3) ls (.int v :: st) σ Q) : Go z l M d pc ls (.ref (op k) :: st) σ Q := by
  have ho : op_ordinal.getD k 0 = v := by
    rw [← hv]
    exact (show ∀ i, i < 43 → op_ordinal.getD i 0 = nI i by decide +kernel) k hk
  exact go_call (M' := mt_JEnum_ordinal) (d' := 0) (As := [.ref (op k)]) (rest := st) (gj_lkU (As := []) (x := ⟨"TruthBench$Op", "ordinal", "()I"⟩) (owner := "java/lang/Enum") ((hs.1.1 k hk).2.1) hw1 mw_837 mw_838 mw_606 cw_JEnum_ordinal rfl ⟨by decide +kernel, by decide +kernel⟩ (by decide +kernel) hd) cw_JEnum_ordinal mw_4 pn_JEnum_ordinal (Nat.le_of_ble_eq_true rfl) (ls0 := [.ref (op k)]) rfl (by omega) hst (by decide)
    (go_aload_n rfl rfl dd_JEnum_ordinal_0 (go_opF (k := k) (q := ("java/lang/Enum", "ordinal", "I", op_ordinal)) (v := v) hs hk (by simp [opF]) ho mw_1876 dd_JEnum_ordinal_1 (go_iret (ty := .int) rfl rfl dd_JEnum_ordinal_4 (fun _ => gj_nextI kk))))
theorem go_ord_sg {z : State} {l : Launch} {M : Mt} {d pc : Nat} {ls st : List Value} {σ : Hp} {Q : Outcome → Hp → Prop} {op sg : Nat → Nat} {aO aS mO mS : Nat} {k index : Nat} {v : Int32} (hs : gj_St z op sg aO aS mO mS) (hk : k < 35) (hv : nI k = v) (hw1 : Cond.methodLink M.y.cls index ⟨"TruthBench$Sign", "ordinal", "()I"⟩ ∈ tw_all) (hd : decode M.cc pc = .ok (.invokevirtual index, 3)) (hdp : 1 ≤ d) (hst : (st.map fun v => v.category).sum ≤ 8)
    (kk : Go z l M d (pc + 3) ls (.int v :: st) σ Q) : Go z l M d pc ls (.ref (sg k) :: st) σ Q := by
  have ho : sg_ordinal.getD k 0 = v := by
    rw [← hv]
    exact (show ∀ i, i < 35 → sg_ordinal.getD i 0 = nI i by decide +kernel) k hk
  exact go_call (M' := mt_JEnum_ordinal) (d' := 0) (As := [.ref (sg k)]) (rest := st) (gj_lkU (As := []) (x := ⟨"TruthBench$Sign", "ordinal", "()I"⟩) (owner := "java/lang/Enum") ((hs.2.1.1 k hk).2.1) hw1 mw_603 mw_605 mw_606 cw_JEnum_ordinal rfl ⟨by decide +kernel, by decide +kernel⟩ (by decide +kernel) hd) cw_JEnum_ordinal mw_4 pn_JEnum_ordinal (Nat.le_of_ble_eq_true rfl) (ls0 := [.ref (sg k)]) rfl (by omega) hst (by decide)
    (go_aload_n rfl rfl dd_JEnum_ordinal_0 (go_sgF (k := k) (q := ("java/lang/Enum", "ordinal", "I", sg_ordinal)) (v := v) hs hk (by simp [sgF]) ho mw_1876 dd_JEnum_ordinal_1 (go_iret (ty := .int) rfl rfl dd_JEnum_ordinal_4 (fun _ => gj_nextI kk))))
