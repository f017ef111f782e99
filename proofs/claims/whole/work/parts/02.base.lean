/-! The words of the tables that keep. -/
def tw_all : List Cond := lw_tbl.filter goodWord
theorem tw_in : ∀ w ∈ tw_all, w ∈ lw_tbl := fun w h => (List.mem_filter.mp h).1
theorem tw_good : ∀ w ∈ tw_all, goodWord w = true := fun w h => (List.mem_filter.mp h).2
theorem tw_at {w : Cond} (i : Nat) (h : tables_1[i]? = some w) (g : goodWord w = true) : w ∈ tw_all := List.mem_filter.mpr ⟨List.mem_append_right _ (List.mem_of_getElem? h), g⟩
theorem tw_sel {q : MethodName × Nat} (i : Nat) (h : lw_privs[i]? = some q) : Cond.selects q.1.cls q.1 q.1 ∈ tw_all := List.mem_filter.mpr ⟨List.mem_append_left _ (List.mem_map.mpr ⟨q, List.mem_of_getElem? h, rfl⟩), rfl⟩
