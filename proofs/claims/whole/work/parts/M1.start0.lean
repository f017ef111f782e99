/-! ===== the typed heap at the law's start ===== -/
def rdS (z : State) (a j : Nat) : Option Value := (z.heap[a]?).bind (fun c => c.slots[j]?)
def rdI (z : State) (a j : Nat) : Int32 := match rdS z a j with
  | some (.int v) => v
  | _ => 0
def rdJ (z : State) (a j : Nat) : Int64 := match rdS z a j with
  | some (.long v) => v
  | _ => 0
def rdA (z : State) (a j : Nat) : Option Nat := match rdS z a j with
  | some (.ref r) => some r
  | _ => none
def rdL (z : State) (a : Nat) : Nat := match z.heap[a]? with
  | some c => c.slots.size.toInt32.toNatClampNeg
  | none => 0
def edI (z : State) (a j : Nat) : Int32 := if j < rdL z a then rdI z a j else 0
def hp0 (z : State) (tag : Nat → Nat) : Hp := (tag, rdL z, fun f a => rdI z a (hp_slot z f), fun f a => rdJ z a (hp_slot z f), fun f a => rdA z a (hp_slot z f), edI z, rdJ z, rdA z, z.heap.size, 0)
/-- the cell at a may bear the tag t -/
def okR (z : State) (a t : Nat) : Prop := a < z.heap.size ∧ hp_ok z (hp0 z (fun _ => 0)) z.heap a t ∧ (t = 21 → ∀ j, isB (edI z a j))
theorem hp0_bl {z : State} {tag : Nat → Nat} (ht : ∀ a, z.heap.size ≤ a → tag a = 0) : hp_bl (hp0 z tag) := fun a ha => by
  have e : z.heap[a]? = none := Array.getElem?_eq_none ha
  have s : ∀ j, rdS z a j = none := fun j => by unfold rdS; rw [e]; rfl
  have hI : ∀ j, rdI z a j = 0 := fun j => by unfold rdI; rw [s]
  have hJ : ∀ j, rdJ z a j = 0 := fun j => by unfold rdJ; rw [s]
  have hA : ∀ j, rdA z a j = none := fun j => by unfold rdA; rw [s]
  have hL : rdL z a = 0 := by unfold rdL; rw [e]
  have hE : ∀ j, edI z a j = 0 := fun j => by unfold edI; rw [hL, if_neg (Nat.not_lt_zero _)]
  exact ⟨ht a ha, hL, fun f => ⟨hI _, hJ _, hA _⟩, fun j => ⟨hE j, hJ j, hA j⟩⟩
theorem okR.cell {z : State} {a t : Nat} (h : okR z a t) : ∃ cell, z.heap[a]? = some cell ∧ hp_cl z a t cell := by
  obtain ⟨-, ⟨cell, h1, -, h3, -⟩, -⟩ := h
  exact ⟨cell, h1, h3⟩
theorem okR.same {z : State} {a t t' : Nat} (h : okR z a t) (h' : okR z a t') : ∃ cell, z.heap[a]? = some cell ∧ hp_cl z a t cell ∧ hp_cl z a t' cell := by
  obtain ⟨c, h1, h2⟩ := h.cell
  obtain ⟨c', h1', h2'⟩ := h'.cell
  cases Option.some.inj (h1.symm.trans h1')
  exact ⟨c, h1, h2, h2'⟩
/-- a class that is no array of bytes or ints -/
def noArr (z : State) (n : String) : Prop := ∀ c k, z.vm.findClass n = some c → z.vm.classes[c]? = some k → ∀ comp ty, k.kind = .array comp ty → ty ≠ .byte ∧ ty ≠ .int
theorem noArr.no {z : State} {a t t' : Nat} {ty : FieldType} {cell : Cell} (hn : noArr z (ct_name t)) (ht : ct_arr t = none) (ht' : ct_arr t' = some ty) (hty : ty = .byte ∨ ty = .int) (h : hp_cl z a t cell) (h' : hp_cl z a t' cell) : False := by
  obtain ⟨-, k, hk, comp, hkind⟩ := h'.2 ty ht'
  have := hn _ k (h.1 (Or.inl ht)) hk comp ty hkind
  rcases hty with e | e
  · exact this.1 e
  · exact this.2 e
section Tags
variable {z : State} {a : Nat}
theorem ok_12_20 (h : okR z a 12) (h' : okR z a 20) : False := by
  obtain ⟨cell, -, c1, c2⟩ := h.same h'
  obtain ⟨k, hk, e1⟩ := Vm.findClass_spec (c1.1 (Or.inl (by decide +kernel)))
  obtain ⟨k', hk', e2⟩ := Vm.findClass_spec (c2.1 (Or.inl (by decide +kernel)))
  cases Option.some.inj (hk.symm.trans hk')
  exact absurd (e1.symm.trans e2) (by decide +kernel)
theorem ok_21_22 (h : okR z a 21) (h' : okR z a 22) : False := by
  obtain ⟨cell, -, c1, c2⟩ := h.same h'
  obtain ⟨-, k, hk, comp, hkind⟩ := c1.2 .byte (by decide +kernel)
  obtain ⟨-, k', hk', comp', hkind'⟩ := c2.2 .int (by decide +kernel)
  cases Option.some.inj (hk.symm.trans hk')
  rw [hkind] at hkind'
  cases hkind'
/-- every cell has its tag -/
theorem tag0 (n12 : noArr z (ct_name 12)) (n20 : noArr z (ct_name 20)) : ∃ tag : Nat → Nat, ∀ a, (tag a = 0 ∨ okR z a (tag a)) ∧ (okR z a 12 → tag a = 12) ∧ (okR z a 20 → tag a = 20) ∧ (okR z a 21 → tag a = 21) ∧ (okR z a 22 → tag a = 22) := by
  have x : ∀ {t t' : Nat} {ty : FieldType} {a : Nat}, noArr z (ct_name t) → ct_arr t = none → ct_arr t' = some ty → (ty = .byte ∨ ty = .int) → okR z a t → okR z a t' → False := fun hn h1 h2 h3 g g' => by
    obtain ⟨cell, -, c1, c2⟩ := g.same g'
    exact hn.no h1 h2 h3 c1 c2
  have a12 : ct_arr 12 = none := by decide +kernel
  have a20 : ct_arr 20 = none := by decide +kernel
  have a21 : ct_arr 21 = some .byte := by decide +kernel
  have a22 : ct_arr 22 = some .int := by decide +kernel
  refine Classical.axiomOfChoice (r := fun a t => (t = 0 ∨ okR z a t) ∧ (okR z a 12 → t = 12) ∧ (okR z a 20 → t = 20) ∧ (okR z a 21 → t = 21) ∧ (okR z a 22 → t = 22)) (fun a => ?_)
  by_cases h12 : okR z a 12
  · exact ⟨12, Or.inr h12, fun _ => rfl, fun h => (ok_12_20 h12 h).elim, fun h => (x n12 a12 a21 (Or.inl rfl) h12 h).elim, fun h => (x n12 a12 a22 (Or.inr rfl) h12 h).elim⟩
  by_cases h20 : okR z a 20
  · exact ⟨20, Or.inr h20, fun h => absurd h h12, fun _ => rfl, fun h => (x n20 a20 a21 (Or.inl rfl) h20 h).elim, fun h => (x n20 a20 a22 (Or.inr rfl) h20 h).elim⟩
  by_cases h21 : okR z a 21
  · exact ⟨21, Or.inr h21, fun h => absurd h h12, fun h => absurd h h20, fun _ => rfl, fun h => (ok_21_22 h21 h).elim⟩
  by_cases h22 : okR z a 22
  · exact ⟨22, Or.inr h22, fun h => absurd h h12, fun h => absurd h h20, fun h => absurd h h21, fun _ => rfl⟩
  · exact ⟨0, Or.inl rfl, fun h => absurd h h12, fun h => absurd h h20, fun h => absurd h h21, fun h => absurd h h22⟩
/-- the typed heap of the start -/
theorem heap0 (n12 : noArr z (ct_name 12)) (n20 : noArr z (ct_name 20)) : ∃ tag : Nat → Nat, hp_wf (hp0 z tag) ∧ hp_Rel z (hp0 z tag) z.heap ∧ ∀ a, (okR z a 12 → tag a = 12) ∧ (okR z a 20 → tag a = 20) ∧ (okR z a 21 → tag a = 21) ∧ (okR z a 22 → tag a = 22) := by
  obtain ⟨tag, h⟩ := tag0 n12 n20
  have hb : hp_bl (hp0 z tag) := hp0_bl (fun a ha => by
    rcases (h a).1 with q | q
    · exact q
    · exact absurd q.1 (by omega))
  refine ⟨tag, ⟨hb, fun a ha j => ?_⟩, ⟨rfl, Nat.le_refl _, fun _ _ => rfl, fun a ha => ?_, hb⟩, fun a => (h a).2⟩
  · have ha' : tag a = 21 := ha
    rcases (h a).1 with q | q
    · rw [q] at ha'; exact absurd ha' (by decide)
    · exact q.2.2 ha' j
  · have ha' : tag a ≠ 0 := ha
    rcases (h a).1 with q | q
    · exact absurd q ha'
    · exact q.2.1
end Tags
