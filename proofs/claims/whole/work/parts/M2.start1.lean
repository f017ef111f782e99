/-! ===== constants, the script, strings at the start ===== -/
section Start0
variable {z : State} {op sg : Nat → Nat} {aO aS mO mS : Nat}
theorem vm_ns {v : VmData} (h : ∀ k, v ≠ .statics k) : v.isStatics = false := by
  cases v <;> first | rfl | exact absurd rfl (h _)
theorem ok_op (hs : gj_St z op sg aO aS mO mS) {i : Nat} (hi : i < 43) : okR z (op i) 20 := by
  obtain ⟨-, ⟨cell, c1, c2, c3, cA⟩, h3⟩ := hs.1.1 i (by rw [show opN.length = 43 from rfl]; exact hi)
  have ha : op i < z.heap.size := Nat.lt_of_not_le cA
  obtain ⟨_, _, _, f, cell', g1, g2, g3, g4, -⟩ := h3 ("java/lang/Enum", "ordinal", "I", op_ordinal) (by simp [opF])
  cases Option.some.inj (c1.symm.trans g3)
  have a20 : ct_arr 20 = none := by decide +kernel
  refine ⟨ha, ⟨cell, c1, ⟨g4, c2, fun h => absurd h (by omega)⟩, hp_cl.obj a20 c3, ?_⟩, fun h => absurd h (by decide)⟩
  rw [a20]
  intro f hf
  rw [show ct_flds 20 = [] by decide +kernel] at hf
  exact absurd hf List.not_mem_nil
theorem rdI_of {a j : Nat} {cell : Cell} {v : Int32} (h : z.heap[a]? = some cell) (hv : cell.slots[j]? = some (.int v)) : rdI z a j = v := by
  have : rdS z a j = some (.int v) := by unfold rdS; rw [h]; exact hv
  unfold rdI
  rw [this]
theorem rdA_of {a j r : Nat} {cell : Cell} (h : z.heap[a]? = some cell) (hv : cell.slots[j]? = some (.ref r)) : rdA z a j = some r := by
  have : rdS z a j = some (.ref r) := by unfold rdS; rw [h]; exact hv
  unfold rdA
  rw [this]
theorem rdL_of {a n : Nat} {cell : Cell} (h : z.heap[a]? = some cell) (hn : cell.slots.size.toInt32 = nI n) (h31 : n < 2 ^ 31) : rdL z a = n := by
  unfold rdL
  rw [h]
  show cell.slots.size.toInt32.toNatClampNeg = n
  rw [hn, nI_clamp h31]
/-- an array of bytes or ints that lies there -/
theorem ok_arr {t b n : Nat} {ty : FieldType} {cell : Cell} {f : Nat → Int32} (ht : ct_arr t = some ty) (hty : ∀ σ j, hp_ev σ ty b j = .int (σ.eI b j)) (h : z.heap[b]? = some cell) (hof : z.isArrayOf cell ty) (hkn : cell.vm ≠ .unknown) (hle : n ≤ cell.slots.size) (hsz : cell.slots.size.toInt32 = nI n) (h31 : n < 2 ^ 31) (hv : ∀ j, j < n → cell.slots[j]? = some (.int (f j))) (hB : t = 21 → ∀ j, j < n → isB (f j)) : okR z b t ∧ rdL z b = n ∧ ∀ j, j < n → edI z b j = f j := by
  have hb : b < z.heap.size := (Array.getElem?_eq_some_iff.mp h).1
  have hL : rdL z b = n := rdL_of h hsz h31
  have hE : ∀ j, j < n → edI z b j = f j := fun j hj => by
    unfold edI
    rw [hL, if_pos hj]
    exact rdI_of h (hv j hj)
  refine ⟨⟨hb, ⟨cell, h, ⟨hkn, vm_ns hof.1, fun q => absurd q (by omega)⟩, ⟨fun q => ?_, fun ty' h' => ?_⟩, ?_⟩, fun e j => ?_⟩, hL, hE⟩
  · rcases q with q | q
    · exact absurd (q.symm.trans ht) (by simp)
    · exact absurd q (by omega)
  · cases Option.some.inj (ht.symm.trans h')
    exact hof
  · rw [ht]
    refine ⟨?_, fun j hj => ?_⟩
    · show hp_ln z b (rdL z b) cell
      rw [hL]
      exact ⟨hle, hsz, fun q => absurd q (by omega)⟩
    · have hj' : j < rdL z b := hj
      rw [hL] at hj'
      rw [hty]
      show cell.slots[j]? = some (.int (edI z b j))
      rw [hE j hj']
      exact hv j hj'
  · by_cases hj : j < n
    · rw [hE j hj]
      exact hB e j hj
    · unfold edI
      rw [hL, if_neg hj]
      exact isB_0
theorem ok_scr {b L : Nat} {xs : Nat → Int32} (h : va_X b L xs z z.heap) (hL : L ≤ 3072) : okR z b 22 ∧ rdL z b = L := by
  obtain ⟨scr, hcb, hof, hkn, hsz, hval⟩ := h
  have := ok_arr (t := 22) (ty := .int) (f := xs) (by decide +kernel) (fun _ _ => rfl) hcb hof hkn (Nat.le_of_eq hsz.symm) (by rw [hsz]; rfl) (by omega) hval (fun q => absurd q (by decide))
  exact ⟨this.1, this.2.1⟩
theorem slot_of {f : Nat} {cf : ClassId} {k : Class} {i : Nat} {fd : Field} (h : z.fieldFound? (ft_own f) (ft_name f) (ft_desc f) = some (cf, k, i, fd)) : hp_slot z f = fd.slot := by
  unfold hp_slot
  rw [h]
/-- a string constant -/
theorem ok_str {own : String} {idx : Nat} {cs : List Int32} {a : Nat} {za : Array Value} (ha : ∀ w ∈ gj_at, w.before za z = true) (he : (Term.string own idx).eval za z none [] z = some (.ref a)) (h1 : Cond.exactly (.string own idx) "java/lang/String" ∈ gj_at) (h2 : Cond.eq (.field (.string own idx) "java/lang/String" "coder" "B") (.int 0) ∈ gj_at) (h3 : Cond.arrayOf (.field (.string own idx) "java/lang/String" "value" "[B") .byte ∈ gj_at) (h4 : Cond.eq (.length (.field (.string own idx) "java/lang/String" "value" "[B")) (.int (Int32.ofNat cs.length)) ∈ gj_at) (h5 : ∀ j, j < cs.length → Cond.eq (.elem (.field (.string own idx) "java/lang/String" "value" "[B") (.int (Int32.ofNat j))) (.int (cs.getD j 0)) ∈ gj_at) (hsm : ∀ j, j < cs.length → isB (cs.getD j 0)) (hlen : cs.length < 2 ^ 31) :
    ∃ b, okR z a 12 ∧ okR z b 21 ∧ rdI z a (hp_slot z 82) = 0 ∧ rdA z a (hp_slot z 81) = some b ∧ rdL z b = cs.length ∧ ∀ j, j < cs.length → edI z b j = cs.getD j 0 := by
  obtain ⟨a', c, cell, k, q1, q2, q3, q4, q5, q6, -⟩ := Cond.exactly_spec (ha _ h1)
  cases Value.ref.inj (Option.some.inj (he.symm.trans q1))
  obtain ⟨b, e1, cellb, b1, b2, b3, b4, b5, b6, -⟩ := va_Tof (A := fun q => z.heap.size ≤ q) (f := fun j => .int (cs.getD j 0)) hlen (ha _ h3) (va_eqt (ha _ h4)) (fun j hj => va_eqt (ha _ (h5 j hj))) (fun x h => by omega)
  obtain ⟨g1, g2, g3⟩ := ok_arr (t := 21) (ty := .byte) (f := fun j => cs.getD j 0) (by decide +kernel) (fun _ _ => rfl) b1 b2 b3 b4 b5 hlen b6 (fun _ => hsm)
  have hv := va_eqt (ha _ h2)
  have fld : ∀ {n d : String} {v : Value}, (Term.field (.string own idx) "java/lang/String" n d).eval za z none [] z = some v → ∃ cf k i fd, z.fieldFound? "java/lang/String" n d = some (cf, k, i, fd) ∧ cell.vm ≠ .unknown ∧ cell.slots[fd.slot]? = some v := fun {n d v} hv => by
    cases hfo : z.fieldFound? "java/lang/String" n d with
    | none =>
      rw [va_fe he] at hv
      simp [State.fieldOf?, State.fieldNamed?, hfo] at hv
    | some x =>
      obtain ⟨cf, k, fi, f⟩ := x
      obtain ⟨-, cell', g2, g3, -, -, g6⟩ := Term.field_spec hfo he hv
      cases Option.some.inj (q3.symm.trans g2)
      exact ⟨cf, k, fi, f, rfl, g3, g6⟩
  obtain ⟨cf1, k1, i1, f1, u1, u2, u3⟩ := fld hv
  obtain ⟨cf2, k2, i2, f2, w1, w2, w3⟩ := fld e1
  have s82 : hp_slot z 82 = f1.slot := slot_of (f := 82) u1
  have s81 : hp_slot z 81 = f2.slot := slot_of (f := 81) w1
  have r82 : rdI z a (hp_slot z 82) = 0 := rdI_of q3 (by rw [s82]; exact u3)
  have r81 : rdA z a (hp_slot z 81) = some b := rdA_of q3 (by rw [s81]; exact w3)
  have hal : a < z.heap.size := (Array.getElem?_eq_some_iff.mp q3).1
  have a12 : ct_arr 12 = none := by decide +kernel
  refine ⟨b, ⟨hal, ⟨cell, q3, ⟨u2, q5, fun h => absurd h (by omega)⟩, hp_cl.obj a12 (by rw [q6]; exact q2), ?_⟩, fun h => absurd h (by decide)⟩, g1, r82, r81, g2, g3⟩
  rw [a12]
  intro f hf
  rw [show ct_flds 12 = [81, 82] by decide +kernel] at hf
  simp only [List.mem_cons, List.not_mem_nil, or_false] at hf
  rcases hf with rfl | rfl
  · rw [s81, w3]
    show some (Value.ref b) = some (va_rf (rdA z a (hp_slot z 81)))
    rw [r81]
    rfl
  · rw [s82, u3]
    show some (Value.int 0) = some (Value.int (rdI z a (hp_slot z 82)))
    rw [r82]
end Start0
