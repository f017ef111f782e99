/-! ===== the typed heap: tags, lengths, fields by their numbers, elements, the next address, the slots made ===== -/
abbrev Hp : Type := (Nat → Nat) × (Nat → Nat) × (Nat → Nat → Int32) × (Nat → Nat → Int64) × (Nat → Nat → Option Nat) × (Nat → Nat → Int32) × (Nat → Nat → Int64) × (Nat → Nat → Option Nat) × Nat × Nat
def Hp.tag (σ : Hp) : Nat → Nat := σ.1
def Hp.len (σ : Hp) : Nat → Nat := σ.2.1
def Hp.I (σ : Hp) : Nat → Nat → Int32 := σ.2.2.1
def Hp.J (σ : Hp) : Nat → Nat → Int64 := σ.2.2.2.1
def Hp.A (σ : Hp) : Nat → Nat → Option Nat := σ.2.2.2.2.1
def Hp.eI (σ : Hp) : Nat → Nat → Int32 := σ.2.2.2.2.2.1
def Hp.eJ (σ : Hp) : Nat → Nat → Int64 := σ.2.2.2.2.2.2.1
def Hp.eA (σ : Hp) : Nat → Nat → Option Nat := σ.2.2.2.2.2.2.2.1
def Hp.nx (σ : Hp) : Nat := σ.2.2.2.2.2.2.2.2.1
def Hp.sl (σ : Hp) : Nat := σ.2.2.2.2.2.2.2.2.2
/-- one field of one object; the field's number is a numeral -/
def up2 {α : Type} (g : Nat → Nat → α) (f a : Nat) (v : α) : Nat → Nat → α := fun h => bif Nat.beq h f then va_up (g f) a v else g h
def Hp.setI (σ : Hp) (f a : Nat) (v : Int32) : Hp := (σ.tag, σ.len, up2 σ.I f a v, σ.J, σ.A, σ.eI, σ.eJ, σ.eA, σ.nx, σ.sl)
def Hp.setJ (σ : Hp) (f a : Nat) (v : Int64) : Hp := (σ.tag, σ.len, σ.I, up2 σ.J f a v, σ.A, σ.eI, σ.eJ, σ.eA, σ.nx, σ.sl)
def Hp.setA (σ : Hp) (f a : Nat) (v : Option Nat) : Hp := (σ.tag, σ.len, σ.I, σ.J, up2 σ.A f a v, σ.eI, σ.eJ, σ.eA, σ.nx, σ.sl)
def Hp.rowI (σ : Hp) (a : Nat) (g : Nat → Int32) : Hp := (σ.tag, σ.len, σ.I, σ.J, σ.A, va_up σ.eI a g, σ.eJ, σ.eA, σ.nx, σ.sl)
def Hp.rowJ (σ : Hp) (a : Nat) (g : Nat → Int64) : Hp := (σ.tag, σ.len, σ.I, σ.J, σ.A, σ.eI, va_up σ.eJ a g, σ.eA, σ.nx, σ.sl)
def Hp.rowA (σ : Hp) (a : Nat) (g : Nat → Option Nat) : Hp := (σ.tag, σ.len, σ.I, σ.J, σ.A, σ.eI, σ.eJ, va_up σ.eA a g, σ.nx, σ.sl)
def Hp.newO (σ : Hp) (t n : Nat) : Hp := (va_up σ.tag σ.nx t, σ.len, σ.I, σ.J, σ.A, σ.eI, σ.eJ, σ.eA, σ.nx + 1, σ.sl + n)
def Hp.newA (σ : Hp) (t n : Nat) : Hp := (va_up σ.tag σ.nx t, va_up σ.len σ.nx n, σ.I, σ.J, σ.A, σ.eI, σ.eJ, σ.eA, σ.nx + 1, σ.sl + n)
theorem up2_same {α : Type} (g : Nat → Nat → α) (f a : Nat) (v : α) : up2 g f a v f a = v := by
  show (bif Nat.beq f f then va_up (g f) a v else g f) a = v
  rw [show Nat.beq f f = true from Nat.beq_refl f]
  show va_up (g f) a v a = v
  simp [va_up]
theorem up2_ne {α : Type} (g : Nat → Nat → α) {f a h b : Nat} (v : α) (hn : b ≠ a) : up2 g f a v h b = g h b := by
  show (bif Nat.beq h f then va_up (g f) a v else g h) b = g h b
  cases hb : Nat.beq h f with
  | false => rfl
  | true =>
    have := Nat.eq_of_beq_eq_true hb
    subst this
    show va_up (g h) a v b = g h b
    simp [va_up, hn]
theorem up2_nf {α : Type} (g : Nat → Nat → α) {f a h b : Nat} (v : α) (hn : h ≠ f) : up2 g f a v h b = g h b := by
  show (bif Nat.beq h f then va_up (g f) a v else g h) b = g h b
  cases hb : Nat.beq h f with
  | false => rfl
  | true => exact absurd (Nat.eq_of_beq_eq_true hb) hn
theorem hp_up_same {α : Type} (g : Nat → α) (a : Nat) (v : α) : va_up g a v a = v := by simp [va_up]
theorem hp_up_ne {α : Type} (g : Nat → α) {a b : Nat} (v : α) (h : b ≠ a) : va_up g a v b = g b := by simp [va_up, h]
/-- what stands at a field, at an element -/
def hp_fv (σ : Hp) (ty : FieldType) (f a : Nat) : Value := match ty with
  | .long => .long (σ.J f a)
  | .object _ => va_rf (σ.A f a)
  | .array _ => va_rf (σ.A f a)
  | _ => .int (σ.I f a)
def hp_ev (σ : Hp) (ty : FieldType) (a j : Nat) : Value := match ty with
  | .long => .long (σ.eJ a j)
  | .object _ => va_rf (σ.eA a j)
  | .array _ => va_rf (σ.eA a j)
  | _ => .int (σ.eI a j)
/-- where a field lies, by the tables of the law's start -/
def hp_slot (z : State) (f : Nat) : Nat := match z.fieldFound? (ft_own f) (ft_name f) (ft_desc f) with
  | some (_, _, _, fd) => fd.slot
  | none => 0
/-- what the VM itself knows of a cell: of a new one nothing -/
def vm9 (z : State) (a : Nat) (v : VmData) : Prop := v ≠ .unknown ∧ v.isStatics = false ∧ (z.heap.size ≤ a → v = .none)
theorem vm9.new {z : State} {a : Nat} : vm9 z a .none := ⟨fun h => (by cases h), rfl, fun _ => rfl⟩
theorem vm9.ns {z : State} {a : Nat} {v : VmData} (h : vm9 z a v) (q : ClassId) (e : v = .statics q) : False := by
  rw [e] at h
  exact Bool.noConfusion h.2.1
/-- its class: of an array that lay there before only what it holds -/
def hp_cl (z : State) (a t : Nat) (cell : Cell) : Prop := (ct_arr t = none ∨ z.heap.size ≤ a → z.vm.findClass (ct_name t) = some cell.cls) ∧ ∀ ty, ct_arr t = some ty → z.isArrayOf cell ty
/-- its length: of an array that lay there before only what arraylength tells -/
def hp_ln (z : State) (a n : Nat) (cell : Cell) : Prop := n ≤ cell.slots.size ∧ cell.slots.size.toInt32 = nI n ∧ (z.heap.size ≤ a → cell.slots.size = n)
theorem hp_ln.eq {z : State} {a n : Nat} {cell : Cell} (h : cell.slots.size = n) : hp_ln z a n cell := ⟨Nat.le_of_eq h.symm, by rw [h]; rfl, fun _ => h⟩
theorem hp_ln.vin {z : State} {a n : Nat} {cell : Cell} {j : Int32} (h : hp_ln z a n cell) (hin : vp_in j n) : vp_in j cell.slots.size := fun q => hin (q.imp id (fun q => Nat.le_trans h.1 q))
/-- the cell at a is as its tag says -/
def hp_ok (z : State) (σ : Hp) (H : Heap) (a t : Nat) : Prop :=
  ∃ cell : Cell, H[a]? = some cell ∧ vm9 z a cell.vm ∧ hp_cl z a t cell ∧
    (match ct_arr t with
     | none => ∀ f ∈ ct_flds t, cell.slots[hp_slot z f]? = some (hp_fv σ (ft_ty f) f a)
     | some ty => hp_ln z a (σ.len a) cell ∧ ∀ j, j < σ.len a → cell.slots[j]? = some (hp_ev σ ty a j))
/-- what has no cell yet is empty -/
def hp_blank (σ : Hp) (a : Nat) : Prop := σ.tag a = 0 ∧ σ.len a = 0 ∧ (∀ f, σ.I f a = 0 ∧ σ.J f a = 0 ∧ σ.A f a = none) ∧ ∀ j, σ.eI a j = 0 ∧ σ.eJ a j = 0 ∧ σ.eA a j = none
def hp_bl (σ : Hp) : Prop := ∀ a, σ.nx ≤ a → hp_blank σ a
theorem hp_bl.lt {σ : Hp} (h : hp_bl σ) {a : Nat} (ha : σ.tag a ≠ 0) : a < σ.nx := by
  rcases Nat.lt_or_ge a σ.nx with h1 | h1
  · exact h1
  · exact absurd (h a h1).1 ha
/-- a byte -/
def isB (x : Int32) : Prop := x = x.toInt8.toInt32
theorem isB_nar (x : Int32) : isB (x.toInt8.toInt32) := by
  unfold isB
  rw [Int8.toInt8_toInt32]
theorem isB_0 : isB 0 := by unfold isB; decide +kernel
/-- the arrays of bytes (their tag is 21) hold bytes -/
def hp_by (σ : Hp) : Prop := ∀ a, σ.tag a = 21 → ∀ j, isB (σ.eI a j)
def hp_wf (σ : Hp) : Prop := hp_bl σ ∧ hp_by σ
theorem hp_wf.lt {σ : Hp} (h : hp_wf σ) {a : Nat} (ha : σ.tag a ≠ 0) : a < σ.nx := h.1.lt ha
/-- the heap H is as σ says; below the law's start it is as it was -/
def hp_Rel (z : State) (σ : Hp) (H : Heap) : Prop :=
  H.size = σ.nx ∧ z.heap.size ≤ σ.nx ∧ (∀ a : Nat, a < z.heap.size → H[a]? = z.heap[a]?) ∧ (∀ a, σ.tag a ≠ 0 → hp_ok z σ H a (σ.tag a)) ∧ hp_bl σ
/-- cells stay what they are -/
def hp_Le (σ σ' : Hp) : Prop := σ.nx ≤ σ'.nx ∧ σ.sl ≤ σ'.sl ∧ ∀ a, σ.tag a ≠ 0 → σ'.tag a = σ.tag a ∧ σ'.len a = σ.len a
theorem hp_Le.rfl' (σ : Hp) : hp_Le σ σ := ⟨Nat.le_refl _, Nat.le_refl _, fun _ _ => ⟨rfl, rfl⟩⟩
theorem hp_Le.trans {σ σ1 σ2 : Hp} (h1 : hp_Le σ σ1) (h2 : hp_Le σ1 σ2) : hp_Le σ σ2 :=
  ⟨Nat.le_trans h1.1 h2.1, Nat.le_trans h1.2.1 h2.2.1, fun a ha => by
    have q := h1.2.2 a ha
    have q2 := h2.2.2 a (by rw [q.1]; exact ha)
    exact ⟨q2.1.trans q.1, q2.2.trans q.2⟩⟩
theorem hp_Le.tag {σ σ' : Hp} (h : hp_Le σ σ') {a t : Nat} (ht : σ.tag a = t) (h0 : t ≠ 0) : σ'.tag a = t := (h.2.2 a (by rw [ht]; exact h0)).1.trans ht
theorem hp_Le.len {σ σ' : Hp} (h : hp_Le σ σ') {a t n : Nat} (ht : σ.tag a = t) (h0 : t ≠ 0) (hn : σ.len a = n) : σ'.len a = n := (h.2.2 a (by rw [ht]; exact h0)).2.trans hn
theorem hp_Rel.lt {z : State} {σ : Hp} {H : Heap} (h : hp_Rel z σ H) {a : Nat} (ha : σ.tag a ≠ 0) : a < σ.nx := h.2.2.2.2.lt ha
theorem hp_fv_set {σ σ' : Hp} {ty : FieldType} {f a : Nat} (hI : σ'.I f a = σ.I f a) (hJ : σ'.J f a = σ.J f a) (hA : σ'.A f a = σ.A f a) : hp_fv σ' ty f a = hp_fv σ ty f a := by
  cases ty <;> simp [hp_fv, hI, hJ, hA]
theorem hp_ev_set {σ σ' : Hp} {ty : FieldType} {a j : Nat} (hI : σ'.eI a j = σ.eI a j) (hJ : σ'.eJ a j = σ.eJ a j) (hA : σ'.eA a j = σ.eA a j) : hp_ev σ' ty a j = hp_ev σ ty a j := by
  cases ty <;> simp [hp_ev, hI, hJ, hA]
/-- a cell that no change has touched -/
theorem hp_ok.kept {z : State} {σ σ' : Hp} {H H' : Heap} {a t : Nat} (h : hp_ok z σ H a t) (hH : H'[a]? = H[a]?) (hl : σ'.len a = σ.len a) (hf : ∀ f, σ'.I f a = σ.I f a ∧ σ'.J f a = σ.J f a ∧ σ'.A f a = σ.A f a)
    (he : ∀ j, σ'.eI a j = σ.eI a j ∧ σ'.eJ a j = σ.eJ a j ∧ σ'.eA a j = σ.eA a j) : hp_ok z σ' H' a t := by
  obtain ⟨cell, h1, h2, h3, h4⟩ := h
  refine ⟨cell, hH.trans h1, h2, h3, ?_⟩
  cases ht : ct_arr t with
  | none =>
    rw [ht] at h4
    exact fun f hq => (h4 f hq).trans (by rw [hp_fv_set (hf f).1 (hf f).2.1 (hf f).2.2])
  | some ty =>
    rw [ht] at h4
    refine ⟨by rw [hl]; exact h4.1, fun j hj => ?_⟩
    rw [hl] at hj
    exact (h4.2 j hj).trans (by rw [hp_ev_set (he j).1 (he j).2.1 (he j).2.2])
theorem hp_setSlot_self {cell : Cell} {i : Nat} {v w : Value} (h : cell.slots[i]? = some w) : (cell.setSlot i v).slots[i]? = some v := by
  have hlt : i < cell.slots.size := (Array.getElem?_eq_some_iff.mp h).1
  simp [Cell.setSlot, hlt]
theorem hp_setSlot_ne {cell : Cell} {i j : Nat} {v : Value} (h : j ≠ i) : (cell.setSlot i v).slots[j]? = cell.slots[j]? := by
  simp [Cell.setSlot, Array.getElem?_setIfInBounds, Ne.symm h]
/-- a field is written -/
theorem hp_Rel.put {z : State} {σ σ' : Hp} {H H' : Heap} {a t f : Nat} {cell : Cell} {v : Value} (h : hp_Rel z σ H) (ht : σ.tag a = t) (h0 : t ≠ 0) (ha : ct_arr t = none) (hf : f ∈ ct_flds t) (hz : z.heap.size ≤ a)
    (hap : ∀ g ∈ ct_flds t, g ≠ f → hp_slot z g ≠ hp_slot z f) (hc : H[a]? = some cell) (e1 : H'[a]? = some (cell.setSlot (hp_slot z f) v)) (e2 : H'.size = H.size) (e3 : ∀ q : Nat, q ≠ a → H'[q]? = H[q]?)
    (htag : σ'.tag = σ.tag) (hlen : σ'.len = σ.len) (hnx : σ'.nx = σ.nx) (heI : σ'.eI = σ.eI) (heJ : σ'.eJ = σ.eJ) (heA : σ'.eA = σ.eA)
    (hrest : ∀ g b, (b ≠ a ∨ g ≠ f) → σ'.I g b = σ.I g b ∧ σ'.J g b = σ.J g b ∧ σ'.A g b = σ.A g b) (hv : hp_fv σ' (ft_ty f) f a = v) : hp_Rel z σ' H' := by
  obtain ⟨h1, h2, h3, h4, h5⟩ := h
  have han : a < σ.nx := hp_Rel.lt ⟨h1, h2, h3, h4, h5⟩ (by rw [ht]; exact h0)
  refine ⟨by rw [e2, hnx]; exact h1, by rw [hnx]; exact h2, fun q hq => (e3 q (by omega)).trans (h3 q hq), fun b hb => ?_, fun b hb => ?_⟩
  · rw [htag] at hb ⊢
    by_cases hba : b = a
    · subst hba
      rw [ht]
      obtain ⟨c0, q1, q2, q3, q4⟩ := h4 b hb
      rw [ht] at q3 q4
      have hcc : c0 = cell := Option.some.inj (q1.symm.trans hc)
      subst hcc
      rw [ha] at q4
      refine ⟨_, e1, q2, q3, ?_⟩
      rw [ha]
      intro g hg
      by_cases hgf : g = f
      · subst hgf
        rw [hp_setSlot_self (q4 g hg), hv]
      · rw [hp_setSlot_ne (hap g hg hgf), q4 g hg]
        have hr := hrest g b (Or.inr hgf)
        rw [hp_fv_set hr.1 hr.2.1 hr.2.2]
    · exact (h4 b hb).kept (e3 b hba) (by rw [hlen]) (fun g => hrest g b (Or.inl hba)) (fun j => by rw [heI, heJ, heA]; exact ⟨rfl, rfl, rfl⟩)
  · rw [hnx] at hb
    obtain ⟨k1, k2, k3, k4⟩ := h5 b hb
    refine ⟨by rw [htag]; exact k1, by rw [hlen]; exact k2, fun g => ?_, fun j => by rw [heI, heJ, heA]; exact k4 j⟩
    have hr := hrest g b (Or.inl (by omega))
    rw [hr.1, hr.2.1, hr.2.2]
    exact k3 g
/-- an element is written -/
theorem hp_Rel.store {z : State} {σ σ' : Hp} {H H' : Heap} {a t i : Nat} {ty : FieldType} {cell : Cell} {v : Value} (h : hp_Rel z σ H) (ht : σ.tag a = t) (h0 : t ≠ 0) (ha : ct_arr t = some ty) (hz : z.heap.size ≤ a)
    (hi : i < σ.len a) (hc : H[a]? = some cell) (e1 : H'[a]? = some (cell.setSlot i v)) (e2 : H'.size = H.size) (e3 : ∀ q : Nat, q ≠ a → H'[q]? = H[q]?)
    (htag : σ'.tag = σ.tag) (hlen : σ'.len = σ.len) (hnx : σ'.nx = σ.nx) (hI : σ'.I = σ.I) (hJ : σ'.J = σ.J) (hA : σ'.A = σ.A)
    (hrest : ∀ b j, (b ≠ a ∨ j ≠ i) → σ'.eI b j = σ.eI b j ∧ σ'.eJ b j = σ.eJ b j ∧ σ'.eA b j = σ.eA b j) (hv : hp_ev σ' ty a i = v) : hp_Rel z σ' H' := by
  obtain ⟨h1, h2, h3, h4, h5⟩ := h
  have han : a < σ.nx := hp_Rel.lt ⟨h1, h2, h3, h4, h5⟩ (by rw [ht]; exact h0)
  refine ⟨by rw [e2, hnx]; exact h1, by rw [hnx]; exact h2, fun q hq => (e3 q (by omega)).trans (h3 q hq), fun b hb => ?_, fun b hb => ?_⟩
  · rw [htag] at hb ⊢
    by_cases hba : b = a
    · subst hba
      rw [ht]
      obtain ⟨c0, q1, q2, q3, q4⟩ := h4 b hb
      rw [ht] at q3 q4
      have hcc : c0 = cell := Option.some.inj (q1.symm.trans hc)
      subst hcc
      rw [ha] at q4
      refine ⟨_, e1, q2, q3, ?_⟩
      rw [ha]
      refine ⟨by unfold hp_ln; rw [k2_slotsz, hlen]; exact q4.1, fun j hj => ?_⟩
      rw [hlen] at hj
      by_cases hji : j = i
      · subst hji
        rw [hp_setSlot_self (q4.2 j hj), hv]
      · rw [hp_setSlot_ne hji, q4.2 j hj]
        have hr := hrest b j (Or.inr hji)
        rw [hp_ev_set hr.1 hr.2.1 hr.2.2]
    · exact (h4 b hb).kept (e3 b hba) (by rw [hlen]) (fun g => by rw [hI, hJ, hA]; exact ⟨rfl, rfl, rfl⟩) (fun j => hrest b j (Or.inl hba))
  · rw [hnx] at hb
    obtain ⟨k1, k2, k3, k4⟩ := h5 b hb
    refine ⟨by rw [htag]; exact k1, by rw [hlen]; exact k2, fun g => by rw [hI, hJ, hA]; exact k3 g, fun j => ?_⟩
    have hr := hrest b j (Or.inl (by omega))
    rw [hr.1, hr.2.1, hr.2.2]
    exact k4 j
/-- a cell is made -/
theorem hp_Rel.push {z : State} {σ σ' : Hp} {H H' : Heap} {t : Nat} (h : hp_Rel z σ H) (h0 : t ≠ 0) (e2 : H'.size = σ.nx + 1) (e3 : ∀ q : Nat, q < σ.nx → H'[q]? = H[q]?)
    (htag : σ'.tag = va_up σ.tag σ.nx t) (hlen : ∀ b, b ≠ σ.nx → σ'.len b = σ.len b) (hnx : σ'.nx = σ.nx + 1) (hI : σ'.I = σ.I) (hJ : σ'.J = σ.J) (hA : σ'.A = σ.A) (heI : σ'.eI = σ.eI) (heJ : σ'.eJ = σ.eJ) (heA : σ'.eA = σ.eA)
    (hok : hp_ok z σ' H' σ.nx t) : hp_Rel z σ' H' := by
  have hlt := fun b (hb : σ.tag b ≠ 0) => hp_Rel.lt h hb
  obtain ⟨h1, h2, h3, h4, h5⟩ := h
  refine ⟨by rw [e2, hnx], by rw [hnx]; omega, fun q hq => (e3 q (by omega)).trans (h3 q hq), fun b hb => ?_, fun b hb => ?_⟩
  · rw [htag] at hb ⊢
    by_cases hbn : b = σ.nx
    · subst hbn
      rw [hp_up_same]
      exact hok
    · rw [hp_up_ne _ _ hbn] at hb ⊢
      exact (h4 b hb).kept (e3 b (hlt b hb)) (hlen b hbn) (fun g => by rw [hI, hJ, hA]; exact ⟨rfl, rfl, rfl⟩) (fun j => by rw [heI, heJ, heA]; exact ⟨rfl, rfl, rfl⟩)
  · rw [hnx] at hb
    obtain ⟨k1, k2, k3, k4⟩ := h5 b (by omega)
    have hbn : b ≠ σ.nx := by omega
    refine ⟨by rw [htag, hp_up_ne _ _ hbn]; exact k1, by rw [hlen b hbn]; exact k2, fun g => by rw [hI, hJ, hA]; exact k3 g, fun j => by rw [heI, heJ, heA]; exact k4 j⟩
theorem hp_Le.setI (σ : Hp) (f a : Nat) (v : Int32) : hp_Le σ (σ.setI f a v) := ⟨Nat.le_refl _, Nat.le_refl _, fun _ _ => ⟨rfl, rfl⟩⟩
theorem hp_Le.setJ (σ : Hp) (f a : Nat) (v : Int64) : hp_Le σ (σ.setJ f a v) := ⟨Nat.le_refl _, Nat.le_refl _, fun _ _ => ⟨rfl, rfl⟩⟩
theorem hp_Le.setA (σ : Hp) (f a : Nat) (v : Option Nat) : hp_Le σ (σ.setA f a v) := ⟨Nat.le_refl _, Nat.le_refl _, fun _ _ => ⟨rfl, rfl⟩⟩
theorem hp_Le.rowI (σ : Hp) (a : Nat) (g : Nat → Int32) : hp_Le σ (σ.rowI a g) := ⟨Nat.le_refl _, Nat.le_refl _, fun _ _ => ⟨rfl, rfl⟩⟩
theorem hp_Le.rowJ (σ : Hp) (a : Nat) (g : Nat → Int64) : hp_Le σ (σ.rowJ a g) := ⟨Nat.le_refl _, Nat.le_refl _, fun _ _ => ⟨rfl, rfl⟩⟩
theorem hp_Le.rowA (σ : Hp) (a : Nat) (g : Nat → Option Nat) : hp_Le σ (σ.rowA a g) := ⟨Nat.le_refl _, Nat.le_refl _, fun _ _ => ⟨rfl, rfl⟩⟩
theorem hp_Le.newO {σ : Hp} (h : hp_wf σ) (t n : Nat) : hp_Le σ (σ.newO t n) :=
  ⟨Nat.le_succ _, Nat.le_add_right _ _, fun a ha => ⟨hp_up_ne _ _ (Nat.ne_of_lt (h.lt ha)), rfl⟩⟩
theorem hp_Le.newA {σ : Hp} (h : hp_wf σ) (t n : Nat) : hp_Le σ (σ.newA t n) :=
  ⟨Nat.le_succ _, Nat.le_add_right _ _, fun a ha => ⟨hp_up_ne _ _ (Nat.ne_of_lt (h.lt ha)), hp_up_ne _ _ (Nat.ne_of_lt (h.lt ha))⟩⟩
theorem hp_bl.newO {σ : Hp} (h : hp_bl σ) (t n : Nat) : hp_bl (σ.newO t n) := fun a ha => by
  have ha' : σ.nx + 1 ≤ a := ha
  obtain ⟨k1, k2, k3, k4⟩ := h a (by omega)
  exact ⟨(hp_up_ne _ _ (by omega)).trans k1, k2, k3, k4⟩
theorem hp_bl.newA {σ : Hp} (h : hp_bl σ) (t n : Nat) : hp_bl (σ.newA t n) := fun a ha => by
  have ha' : σ.nx + 1 ≤ a := ha
  obtain ⟨k1, k2, k3, k4⟩ := h a (by omega)
  exact ⟨(hp_up_ne _ _ (by omega)).trans k1, (hp_up_ne _ _ (by omega)).trans k2, k3, k4⟩
theorem hp_bl.setI {σ : Hp} (h : hp_bl σ) {f a : Nat} (ha : a < σ.nx) (v : Int32) : hp_bl (σ.setI f a v) := fun b hb => by
  obtain ⟨k1, k2, k3, k4⟩ := h b hb
  have hb' : σ.nx ≤ b := hb
  exact ⟨k1, k2, fun g => ⟨(up2_ne _ _ (by omega)).trans (k3 g).1, (k3 g).2.1, (k3 g).2.2⟩, k4⟩
theorem hp_bl.setJ {σ : Hp} (h : hp_bl σ) {f a : Nat} (ha : a < σ.nx) (v : Int64) : hp_bl (σ.setJ f a v) := fun b hb => by
  obtain ⟨k1, k2, k3, k4⟩ := h b hb
  have hb' : σ.nx ≤ b := hb
  exact ⟨k1, k2, fun g => ⟨(k3 g).1, (up2_ne _ _ (by omega)).trans (k3 g).2.1, (k3 g).2.2⟩, k4⟩
theorem hp_bl.setA {σ : Hp} (h : hp_bl σ) {f a : Nat} (ha : a < σ.nx) (v : Option Nat) : hp_bl (σ.setA f a v) := fun b hb => by
  obtain ⟨k1, k2, k3, k4⟩ := h b hb
  have hb' : σ.nx ≤ b := hb
  exact ⟨k1, k2, fun g => ⟨(k3 g).1, (k3 g).2.1, (up2_ne _ _ (by omega)).trans (k3 g).2.2⟩, k4⟩
theorem hp_bl.rowI {σ : Hp} (h : hp_bl σ) {a : Nat} (ha : a < σ.nx) (g : Nat → Int32) : hp_bl (σ.rowI a g) := fun b hb => by
  obtain ⟨k1, k2, k3, k4⟩ := h b hb
  have hb' : σ.nx ≤ b := hb
  refine ⟨k1, k2, k3, fun j => ⟨?_, (k4 j).2.1, (k4 j).2.2⟩⟩
  show va_up σ.eI a g b j = 0
  rw [hp_up_ne _ _ (by omega)]
  exact (k4 j).1
theorem hp_bl.rowJ {σ : Hp} (h : hp_bl σ) {a : Nat} (ha : a < σ.nx) (g : Nat → Int64) : hp_bl (σ.rowJ a g) := fun b hb => by
  obtain ⟨k1, k2, k3, k4⟩ := h b hb
  have hb' : σ.nx ≤ b := hb
  refine ⟨k1, k2, k3, fun j => ⟨(k4 j).1, ?_, (k4 j).2.2⟩⟩
  show va_up σ.eJ a g b j = 0
  rw [hp_up_ne _ _ (by omega)]
  exact (k4 j).2.1
theorem hp_bl.rowA {σ : Hp} (h : hp_bl σ) {a : Nat} (ha : a < σ.nx) (g : Nat → Option Nat) : hp_bl (σ.rowA a g) := fun b hb => by
  obtain ⟨k1, k2, k3, k4⟩ := h b hb
  have hb' : σ.nx ≤ b := hb
  refine ⟨k1, k2, k3, fun j => ⟨(k4 j).1, (k4 j).2.1, ?_⟩⟩
  show va_up σ.eA a g b j = none
  rw [hp_up_ne _ _ (by omega)]
  exact (k4 j).2.2
theorem hp_by.newO {σ : Hp} (h : hp_by σ) (hb : hp_bl σ) (t n : Nat) : hp_by (σ.newO t n) := fun a ha j => by
  by_cases e : a = σ.nx
  · subst e
    show isB (σ.eI σ.nx j)
    rw [((hb σ.nx (Nat.le_refl _)).2.2.2 j).1]
    exact isB_0
  · exact h a ((hp_up_ne _ _ e).symm.trans ha) j
theorem hp_by.newA {σ : Hp} (h : hp_by σ) (hb : hp_bl σ) (t n : Nat) : hp_by (σ.newA t n) := fun a ha j => by
  by_cases e : a = σ.nx
  · subst e
    show isB (σ.eI σ.nx j)
    rw [((hb σ.nx (Nat.le_refl _)).2.2.2 j).1]
    exact isB_0
  · exact h a ((hp_up_ne _ _ e).symm.trans ha) j
theorem hp_by.rowI {σ : Hp} (h : hp_by σ) {a : Nat} {g : Nat → Int32} (hg : σ.tag a = 21 → ∀ j, isB (g j)) : hp_by (σ.rowI a g) := fun b hb j => by
  by_cases e : b = a
  · subst e
    show isB (va_up σ.eI b g b j)
    rw [hp_up_same]
    exact hg hb j
  · show isB (va_up σ.eI a g b j)
    rw [hp_up_ne _ _ e]
    exact h b hb j
theorem hp_wf.newO {σ : Hp} (h : hp_wf σ) (t n : Nat) : hp_wf (σ.newO t n) := ⟨h.1.newO t n, h.2.newO h.1 t n⟩
theorem hp_wf.newA {σ : Hp} (h : hp_wf σ) (t n : Nat) : hp_wf (σ.newA t n) := ⟨h.1.newA t n, h.2.newA h.1 t n⟩
theorem hp_wf.setI {σ : Hp} (h : hp_wf σ) {f a : Nat} (ha : a < σ.nx) (v : Int32) : hp_wf (σ.setI f a v) := ⟨h.1.setI ha v, h.2⟩
theorem hp_wf.setJ {σ : Hp} (h : hp_wf σ) {f a : Nat} (ha : a < σ.nx) (v : Int64) : hp_wf (σ.setJ f a v) := ⟨h.1.setJ ha v, h.2⟩
theorem hp_wf.setA {σ : Hp} (h : hp_wf σ) {f a : Nat} (ha : a < σ.nx) (v : Option Nat) : hp_wf (σ.setA f a v) := ⟨h.1.setA ha v, h.2⟩
theorem hp_wf.rowI {σ : Hp} (h : hp_wf σ) {a : Nat} (ha : a < σ.nx) (g : Nat → Int32) (hg : σ.tag a = 21 → ∀ j, isB (g j)) : hp_wf (σ.rowI a g) := ⟨h.1.rowI ha g, h.2.rowI hg⟩
theorem hp_wf.rowJ {σ : Hp} (h : hp_wf σ) {a : Nat} (ha : a < σ.nx) (g : Nat → Int64) : hp_wf (σ.rowJ a g) := ⟨h.1.rowJ ha g, h.2⟩
theorem hp_wf.rowA {σ : Hp} (h : hp_wf σ) {a : Nat} (ha : a < σ.nx) (g : Nat → Option Nat) : hp_wf (σ.rowA a g) := ⟨h.1.rowA ha g, h.2⟩
theorem hp_tag_newO {σ : Hp} (h : hp_wf σ) {a t s n : Nat} (ht : σ.tag a = t) (h0 : t ≠ 0) : (σ.newO s n).tag a = t := (hp_up_ne _ _ (Nat.ne_of_lt (h.lt (by rw [ht]; exact h0)))).trans ht
theorem hp_tag_newA {σ : Hp} (h : hp_wf σ) {a t s n : Nat} (ht : σ.tag a = t) (h0 : t ≠ 0) : (σ.newA s n).tag a = t := (hp_up_ne _ _ (Nat.ne_of_lt (h.lt (by rw [ht]; exact h0)))).trans ht
theorem hp_len_newO {σ : Hp} {a s n : Nat} : (σ.newO s n).len a = σ.len a := rfl
theorem hp_len_newA {σ : Hp} (h : hp_wf σ) {a t s n : Nat} (ht : σ.tag a = t) (h0 : t ≠ 0) : (σ.newA s n).len a = σ.len a := hp_up_ne _ _ (Nat.ne_of_lt (h.lt (by rw [ht]; exact h0)))
