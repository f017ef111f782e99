/-! ===== what the start gives, put together ===== -/
section Start2
variable {z : State}
theorem gj_St_of2 (hz : gj_Zok z) : ∃ (op sg : Nat → Nat) (aO aS mO mS : Nat), gj_St z op sg aO aS mO mS ∧ (∀ i, i < 35 → ∀ args : Array Value, (Term.static "TruthBench$Sign" (sgN.getD i "") "LTruthBench$Sign;").eval args z none [] z = some (.ref (sg i))) ∧ ∀ i, i < 43 → ∀ args : Array Value, (Term.static "TruthBench$Op" (opN.getD i "") "LTruthBench$Op;").eval args z none [] z = some (.ref (op i)) := by
  obtain ⟨op, h1, h1'⟩ := op_enum hz
  obtain ⟨sg, h2, h2'⟩ := sg_enum hz
  obtain ⟨aO, h3⟩ := op_all_arr h1' hz
  obtain ⟨aS, h4⟩ := sg_all_arr h2' hz
  obtain ⟨mO, h5⟩ := op_map_arr hz
  obtain ⟨mS, h6⟩ := sg_map_arr hz
  exact ⟨op, sg, aO, aS, mO, mS, ⟨h1, h2, h3, h4, h5, h6⟩, h2', h1'⟩
theorem noArr_str (hz : gj_Zok z) : noArr z (ct_name 12) := fun c k h1 h2 comp ty h3 => by
  obtain ⟨za, ht, -⟩ := hz
  obtain ⟨c', k', r1, r2, hkind, -⟩ := Cond.instantiable_spec (ht _ (tw_in _ mw_1365))
  have h1' : z.vm.findClass "java/lang/String" = some c := h1
  cases Option.some.inj (h1'.symm.trans r1)
  cases Option.some.inj (h2.symm.trans r2)
  rw [h3] at hkind
  cases hkind
set_option maxRecDepth 100000 in
theorem op_w_abs : Cond.eq (.field (.static "TruthBench$Op" (opN.getD 35 "") "LTruthBench$Op;") "TruthBench$Op" "word" "Ljava/lang/String;") (.string (st_own.getD 57 "") (st_idx.getD 57 0)) ∈ gj_at := List.mem_of_getElem? (i := 791) (by decide +kernel)
theorem fit_ref {s : State} {cell : Cell} {k : Class} {comp : ClassId} {ty : FieldType} {i r : Nat} (hk : s.vm.classes[cell.cls]? = some k) (hkind : k.kind = .array comp ty) (hns : cell.vm.isStatics = false) (h : s.fitsSlot cell.cls cell.vm i (.ref r) = true) : ty ≠ .byte ∧ ty ≠ .int := by
  have ht : s.slotType? cell.cls cell.vm i = some ty := by
    unfold State.slotType?
    simp only [hk, Option.bind_eq_bind, Option.bind_some]
    cases hv : cell.vm <;> first | (rw [hv] at hns; cases hns; done) | (simp only [hkind]; done)
  unfold State.fitsSlot at h
  rw [ht] at h
  exact ⟨fun e => (by subst e; cases h), fun e => (by subst e; cases h)⟩
theorem noArr_op (hz : gj_Zok z) (hf : heapFits z = true) : noArr z (ct_name 20) := fun c k h1 h2 comp ty h3 => by
  obtain ⟨op, e1, e2⟩ := op_enum hz
  obtain ⟨-, ⟨cell, c1, c2, c3, -⟩, -⟩ := e1.1 35 (by decide)
  obtain ⟨za, -, ha⟩ := hz.atom
  have hev := (st_all hz (i := 57) (by decide)).1 za
  have hv := gj_eqr (ha _ op_w_abs) hev
  have h1' : z.vm.findClass "TruthBench$Op" = some c := h1
  have hc : cell.cls = c := Option.some.inj (c3.symm.trans h1')
  cases hfo : z.fieldFound? "TruthBench$Op" "word" "Ljava/lang/String;" with
  | none =>
    rw [va_fe (e2 35 (by decide) za)] at hv
    simp [State.fieldOf?, State.fieldNamed?, hfo] at hv
  | some x =>
    obtain ⟨cf, k9, fi, f⟩ := x
    obtain ⟨-, cell', g2, g3, -, -, g6⟩ := Term.field_spec hfo (e2 35 (by decide) za) hv
    cases Option.some.inj (c1.symm.trans g2)
    have q1 := (Array.all_eq_true_iff_forall_mem.mp hf) cell (Array.mem_of_getElem? g2)
    have hlt : f.slot < cell.slots.size := (Array.getElem?_eq_some_iff.mp g6).1
    have q2 := (List.all_eq_true.mp q1) f.slot (List.mem_range.mpr hlt)
    simp only [g6] at q2
    exact fit_ref (by rw [hc]; exact h2) h3 c2 q2
theorem ari_not (hz : gj_Zok z) : va_Nc "java/lang/ArithmeticException" "java/lang/IllegalStateException" z := by
  obtain ⟨za, -, ha⟩ := hz.atom
  exact va_Nc.of (ha _ (List.mem_of_getElem? (i := 912) (by decide +kernel)))
end Start2
