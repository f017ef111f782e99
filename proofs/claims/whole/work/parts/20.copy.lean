/-! ===== System.arraycopy between arrays of bytes ===== -/
theorem gj_pairs_slots (at_ : Nat) : ∀ (xs : List Value) (i : Nat) (cl9 : Cell), at_ + i + xs.length ≤ cl9.slots.size → ∀ k : Nat,
    (cl9.storePairs at_ (xs.zipIdx i)).slots[k]? = if at_ + i ≤ k ∧ k < at_ + i + xs.length then some (xs.getD (k - (at_ + i)) .null) else cl9.slots[k]?
  | [], i, cl9, _, k => by
    show cl9.slots[k]? = _
    rw [if_neg (by simp only [List.length_nil]; omega)]
  | x :: xs, i, cl9, h, k => by
    rw [List.zipIdx_cons]
    show ((cl9.setSlot (at_ + i) x).storePairs at_ (xs.zipIdx (i + 1))).slots[k]? = _
    simp only [List.length_cons] at h
    rw [gj_pairs_slots at_ xs (i + 1) _ (by rw [k2_slotsz]; omega)]
    by_cases hk : k = at_ + i
    · subst hk
      rw [if_neg (by omega), if_pos (by simp only [List.length_cons]; omega)]
      rw [hp_setSlot_self (w := cl9.slots[at_ + i]'(by omega)) (Array.getElem?_eq_getElem (by omega))]
      simp
    · by_cases h9 : at_ + (i + 1) ≤ k ∧ k < at_ + (i + 1) + xs.length
      · rw [if_pos h9, if_pos (by simp only [List.length_cons]; omega)]
        have e : k - (at_ + i) = (k - (at_ + (i + 1))) + 1 := by omega
        rw [e, List.getD_cons_succ]
      · rw [if_neg h9, if_neg (by simp only [List.length_cons]; omega), hp_setSlot_ne hk]
theorem gj_nn {z : Int32} (hz : ¬ z < 0) : z.toInt = (z.toNatClampNeg : Int) := by
  have hz0 : (0 : Int) ≤ z.toInt := by
    have := Int32.not_lt.mp hz
    simpa using Int32.le_iff_toInt_le.mp this
  show z.toInt = ((z.toInt.toNat : Nat) : Int)
  omega
theorem isB_fits {x : Int32} (h : isB x) : fits .byte (.int x) = true := by
  obtain ⟨h1, h2⟩ := lg_i2b_range x
  unfold isB at h
  rw [h]
  show (decide ((-128 : Int32) ≤ x.toInt8.toInt32) && decide (x.toInt8.toInt32 ≤ (127 : Int32))) = true
  rw [Bool.and_eq_true, decide_eq_true_eq, decide_eq_true_eq]
  exact ⟨Int32.le_iff_toInt_le.mpr h1, Int32.le_iff_toInt_le.mpr (show _ ≤ (127 : Int) by omega)⟩
section GjCopy
variable {z : State} {l : Launch} {M : Mt} {d pc : Nat} {ls st : List Value} {σ : Hp} {Q : Outcome → Hp → Prop}
theorem go_copyB {a0 a index : Nat} {sp dp n : Int32} (hw1 : Cond.methodLink M.y.cls index arraycopyName ∈ tw_all) (hw2 : Cond.native arraycopyName ∈ tw_all) (hw3 : Cond.static arraycopyName ∈ tw_all) (hw4 : Cond.initialized "java/lang/System" ∈ tw_all) (hdg : decode M.cc pc = .ok (.invokestatic index, 3))
    (ht0 : σ.tag a0 = 21) (ht : σ.tag a = 21) (hz : z.heap.size ≤ a) (h1 : ¬ sp < 0) (h2 : ¬ dp < 0) (h3 : ¬ n < 0) (h4 : sp.toNatClampNeg + n.toNatClampNeg ≤ σ.len a0) (h5 : dp.toNatClampNeg + n.toNatClampNeg ≤ σ.len a) (hd : 1 ≤ d) (hst : (st.map fun v => v.category).sum ≤ 8)
    (k : Go z l M d (pc + 3) ls st (σ.rowI a (va_cpy (σ.eI a0) (σ.eI a) sp.toNatClampNeg dp.toNatClampNeg n.toNatClampNeg)) Q) : Go z l M d pc ls (.int n :: .int dp :: .ref a :: .int sp :: .ref a0 :: st) σ Q := by
  refine go_wf fun hwf => ?_
  have hcb : ∀ j, isB (va_cpy (σ.eI a0) (σ.eI a) sp.toNatClampNeg dp.toNatClampNeg n.toNatClampNeg j) := fun j => by
    unfold va_cpy
    split
    · exact hwf.2 a0 ht0 _
    · exact hwf.2 a ht _
  refine go_heap (fun hw => hw.rowI (hw.lt (by rw [ht]; decide)) _ (fun _ => hcb)) (fun _ => hp_Le.rowI σ a _) (fun p e R s m args below meth c la H locs cells slots Q' X hl hr hfr e1 e2 kk => ?_) k
  rw [show ∀ g, (σ.rowI a g).nx - σ.nx = 0 from fun _ => Nat.sub_self _, show ∀ g, (σ.rowI a g).sl - σ.sl = 0 from fun _ => Nat.sub_self _] at kk
  have ha : ct_arr 21 = some .byte := by decide +kernel
  obtain ⟨c0, p1, p2, ⟨-, kA0, hk0, cm0, hkk0⟩, p4⟩ := gj_arr X hr ht0 (by decide) ha
  obtain ⟨c1, k1, q1, q2, q3, q5, q4⟩ := gj_cell X hr ht (by decide) (Or.inr hz)
  rw [ha] at q4
  obtain ⟨kA1, cm1, hk1, hkk1, -, -⟩ := gj_isArr ha X q2.2.1 q3
  have hf := X.frames
  have hlo := X.locals
  have hnw : nativeFrameWords "java/lang/System" "arraycopy" 5 + 11 ≤ 50 := by decide +kernel
  intro T hT XT
  have hget : ∀ i, i < n.toNatClampNeg → c0.slots.getD (sp.toNatClampNeg + i) .null = .int (σ.eI a0 (sp.toNatClampNeg + i)) := fun i hi => by
    rw [Array.getD_eq_getD_getElem?, p4.2 _ (by omega)]
    rfl
  obtain ⟨vm', X', step⟩ := XT.arraycopy X.1 X.own (X.word hw1 args) (X.word hw2 args) (X.word hw3 args) (X.word hw4 args) (src := a0) (dst := a) (cs := c0) (cd := c1) (srcPos := sp) (destPos := dp) (n := n) (by rw [hT]; exact p1) (by rw [hT]; exact q1)
    (fun _ h => p2.ns _ h) (fun _ h => q2.ns _ h) p2.1 q2.1 hk0 hk1 hkk0 hkk1 (by decide) h1 h2 h3
    (by rw [gj_nn h1, gj_nn h3]; have := p4.1.1; omega) (by rw [gj_nn h2, gj_nn h3, q4.1]; omega)
    (fun vm₁ _ i hi => by
      rw [hget i hi]
      exact ⟨isB_fits (hwf.2 a0 ht0 _), trivial⟩)
    (g := F0 m pc la (.int n :: .int dp :: .ref a :: .int sp :: .ref a0 :: st)) rfl (hl.1.trans X.maxL.symm) (rest := st) rfl (by rw [X.2.1]; exact hdg) (by omega) (by show 2 * 0 + (st.map fun v => v.category).sum + _ ≤ _; omega)
  obtain ⟨f1, f2, f3, -, -⟩ := Cell.storePairs_facts c1 dp.toNatClampNeg (c0.stretch sp.toNatClampNeg n.toNatClampNeg).zipIdx
  have hlen : (c0.stretch sp.toNatClampNeg n.toNatClampNeg).length = n.toNatClampNeg := by simp [Cell.stretch]
  have hsl : ∀ j, j < σ.len a → (copied c0 c1 sp dp n).slots[j]? = some (.int (va_cpy (σ.eI a0) (σ.eI a) sp.toNatClampNeg dp.toNatClampNeg n.toNatClampNeg j)) := fun j hj => by
    show (c1.storePairs dp.toNatClampNeg ((c0.stretch sp.toNatClampNeg n.toNatClampNeg).zipIdx 0)).slots[j]? = _
    rw [gj_pairs_slots _ _ 0 _ (by rw [hlen, q4.1]; omega)]
    simp only [Nat.add_zero, hlen]
    unfold va_cpy
    by_cases h : dp.toNatClampNeg ≤ j ∧ j < dp.toNatClampNeg + n.toNatClampNeg
    · rw [if_pos h, if_pos h]
      congr 1
      rw [List.getD_eq_getElem?_getD, Cell.stretch, List.getElem?_map, List.getElem?_range (by omega)]
      exact hget _ (by omega)
    · rw [if_neg h, if_neg h]
      exact q4.2 j hj
  have hal : a < H.size := (Array.getElem?_eq_some_iff.mp q1).1
  have hheap : ((T.setVm vm').setCell a (copied c0 c1 sp dp n)).heap = H.setIfInBounds a (copied c0 c1 sp dp n) := by rw [← hT]; rfl
  have oq : ∀ q : Nat, q ≠ a → (H.setIfInBounds a (copied c0 c1 sp dp n))[q]? = H[q]? := fun q hq => by simp [Array.getElem?_setIfInBounds, Ne.symm hq]
  have oa : (H.setIfInBounds a (copied c0 c1 sp dp n))[a]? = some (copied c0 c1 sp dp n) := by simp [Array.getElem?_setIfInBounds, hal]
  have hR2 : hp_Rel z (σ.rowI a (va_cpy (σ.eI a0) (σ.eI a) sp.toNatClampNeg dp.toNatClampNeg n.toNatClampNeg)) (H.setIfInBounds a (copied c0 c1 sp dp n)) := by
    obtain ⟨g1, g2, g3, g4, g5⟩ := hr
    refine ⟨by simp; exact g1, g2, fun q hq => (oq q (by omega)).trans (g3 q hq), fun b hb => ?_, g5.rowI (g5.lt (by rw [ht]; decide)) _⟩
    by_cases hba : b = a
    · subst hba
      show hp_ok z _ _ b (σ.tag b)
      rw [ht]
      refine ⟨_, oa, by rw [show (copied c0 c1 sp dp n).vm = c1.vm from f2]; exact q2, hp_cl.arr ha X.zok (by rw [show (copied c0 c1 sp dp n).vm = c1.vm from f2]; exact q2.2.1) ?_, ?_⟩
      · rw [show (copied c0 c1 sp dp n).cls = c1.cls from f1, ← X.warm.alike.findClass]
        exact q3
      · rw [ha]
        refine ⟨hp_ln.eq (f3.trans q4.1), fun j hj => ?_⟩
        rw [hsl j hj]
        show _ = some (Value.int (va_up σ.eI b _ b j))
        rw [hp_up_same]
    · exact (g4 b hb).kept (oq b hba) rfl (fun f => ⟨rfl, rfl, rfl⟩) (fun j => ⟨by show va_up σ.eI a _ b j = _; rw [hp_up_ne _ _ hba], rfl, rfl⟩)
  obtain ⟨t, a1, b1⟩ := kk _ _ hR2 (fun q hq => by
    rcases List.mem_append.mp hq with h | h
    · exact hfr q h
    · obtain ⟨y, -, hy⟩ := List.mem_map.mp h
      rw [← hy]
      exact hz) _ hheap X'
  exact ⟨t, step t a1, b1⟩
theorem gw_copyB {i0 i index n0 n1 : Nat} {sp dp n : Int32} {ad : Nat → Nat} {w : Wd} (hc : CW z σ ad) (hi0 : i0 < 21) (hi : i < 21) (ht0 : cw_tag i0 = 21) (ht : cw_tag i = 21) (hn0 : cw_len i0 = n0) (hn1 : cw_len i = n1) (hw1 : Cond.methodLink M.y.cls index arraycopyName ∈ tw_all) (hw2 : Cond.native arraycopyName ∈ tw_all) (hw3 : Cond.static arraycopyName ∈ tw_all) (hw4 : Cond.initialized "java/lang/System" ∈ tw_all) (hdg : decode M.cc pc = .ok (.invokestatic index, 3))
    (hd : 1 ≤ d) (hst : (st.map fun v => v.category).sum ≤ 8) (h1 : ¬ sp < 0) (h2 : ¬ dp < 0) (h3 : ¬ n < 0) (h4 : sp.toNatClampNeg + n.toNatClampNeg ≤ n0) (h5 : dp.toNatClampNeg + n.toNatClampNeg ≤ n1)
    (k : Go z l M d (pc + 3) ls st (ov σ ad 21 (w.rowI i (va_cpy (w.eI i0) (w.eI i) sp.toNatClampNeg dp.toNatClampNeg n.toNatClampNeg))) Q) : Go z l M d pc ls (.int n :: .int dp :: .ref (ad i) :: .int sp :: .ref (ad i0) :: st) (ov σ ad 21 w) Q :=
  go_copyB hw1 hw2 hw3 hw4 hdg (hc.tag hi0 ht0) (hc.tag hi ht) (hc.2 i hi).2.2 h1 h2 h3 (by rw [gw_len hc hi0 hn0]; exact h4) (by rw [gw_len hc hi hn1]; exact h5) hd hst (by rw [ov_eI hc.1 hi0, ov_eI hc.1 hi, ov_rowI hc.1 hi]; exact k)
end GjCopy
