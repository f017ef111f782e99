/-! The words of the tables that keep. -/
def tw_all : List Cond := lw_tbl.filter goodWord
theorem tw_in : ∀ w ∈ tw_all, w ∈ lw_tbl := fun w h => (List.mem_filter.mp h).1
theorem tw_good : ∀ w ∈ tw_all, goodWord w = true := fun w h => (List.mem_filter.mp h).2
theorem tw_at {w : Cond} (i : Nat) (h : tables_1[i]? = some w) (g : goodWord w = true) : w ∈ tw_all := List.mem_filter.mpr ⟨List.mem_append_right _ (List.mem_of_getElem? h), g⟩
theorem tw_sel {q : MethodName × Nat} (i : Nat) (h : lw_privs[i]? = some q) : Cond.selects q.1.cls q.1 q.1 ∈ tw_all := List.mem_filter.mpr ⟨List.mem_append_left _ (List.mem_map.mpr ⟨q, List.mem_of_getElem? h, rfl⟩), rfl⟩
theorem tc_1 : ∀ w ∈ tables_1_1, w ∈ tables_1 := fun _ h => List.mem_append_left _ h
theorem tc_2 : ∀ w ∈ tables_1_2, w ∈ tables_1 := fun _ h => List.mem_append_right _ (List.mem_append_left _ h)
theorem tc_3 : ∀ w ∈ tables_1_3, w ∈ tables_1 := fun _ h => List.mem_append_right _ (List.mem_append_right _ (List.mem_append_left _ h))
theorem tc_4 : ∀ w ∈ tables_1_4, w ∈ tables_1 := fun _ h => List.mem_append_right _ (List.mem_append_right _ (List.mem_append_right _ (List.mem_append_left _ h)))
theorem tc_5 : ∀ w ∈ tables_1_5, w ∈ tables_1 := fun _ h => List.mem_append_right _ (List.mem_append_right _ (List.mem_append_right _ (List.mem_append_right _ (List.mem_append_left _ h))))
theorem tc_6 : ∀ w ∈ tables_1_6, w ∈ tables_1 := fun _ h => List.mem_append_right _ (List.mem_append_right _ (List.mem_append_right _ (List.mem_append_right _ (List.mem_append_right _ (List.mem_append_left _ h)))))
theorem tc_7 : ∀ w ∈ tables_1_7, w ∈ tables_1 := fun _ h => List.mem_append_right _ (List.mem_append_right _ (List.mem_append_right _ (List.mem_append_right _ (List.mem_append_right _ (List.mem_append_right _ (List.mem_append_left _ h))))))
theorem tc_8 : ∀ w ∈ tables_1_8, w ∈ tables_1 := fun _ h => List.mem_append_right _ (List.mem_append_right _ (List.mem_append_right _ (List.mem_append_right _ (List.mem_append_right _ (List.mem_append_right _ (List.mem_append_right _ h))))))
theorem tw_of {w : Cond} (h : w ∈ tables_1) (g : goodWord w = true) : w ∈ tw_all := List.mem_filter.mpr ⟨List.mem_append_right _ h, g⟩
/-- the words at some places of a row of the tables: one decision -/
theorem tw_many {L : List Cond} (ps : List (Nat × Cond)) (h : ps.all (fun p => decide (L[p.1]? = some p.2)) = true) : ∀ p ∈ ps, p.2 ∈ L := fun p hp => List.mem_of_getElem? (of_decide_eq_true (List.all_eq_true.mp h p hp))
