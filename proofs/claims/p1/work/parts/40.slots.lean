/-! ===== values, and the slots that hold them ===== -/
abbrev Va : Type := Int32 × Int64 × List Int32
def ch_ok (c : Int32) : Prop := 32 ≤ c ∧ c ≤ 126
/-! kind, number (of a text: its length), characters -/
/-! an INT in its range -/
def v_in (v : Va) : Prop := v.1 = 0 → -9007199254740991 ≤ v.2.1.toInt ∧ v.2.1.toInt ≤ 9007199254740991
def v_ok (v : Va) : Prop := (v.1 = 0 ∧ v.2.2 = []) ∨ (v.1 = 1 ∧ v.2.1 = lN v.2.2.length ∧ v.2.2.length ≤ 40 ∧ ∀ c ∈ v.2.2, ch_ok c) ∨ (v.1 = 2 ∧ (v.2.1 = 0 ∨ v.2.1 = 1) ∧ v.2.2 = []) ∨ v = (3, 0, [])
def v_null : Va := (3, 0, [])
def SL (w : Wd) (s : Nat) (v : Va) : Prop := w.eI 4 s = v.1 ∧ w.eJ 5 s = v.2.1 ∧ ∀ i, i < v.2.2.length → w.eI 6 (s * 40 + i) = v.2.2.getD i 0
theorem v_ok.len {v : Va} (h : v_ok v) : v.2.2.length ≤ 40 := by
  rcases h with ⟨-, h⟩ | ⟨-, -, h, -⟩ | ⟨-, -, h⟩ | h
  · rw [h]; decide
  · exact h
  · rw [h]; decide
  · rw [h]; decide
theorem v_ok.text {v : Va} (h : v_ok v) (h1 : v.1 = 1) : v.2.1 = lN v.2.2.length ∧ ∀ c ∈ v.2.2, ch_ok c := by
  rcases h with ⟨h, -⟩ | ⟨-, h2, -, h4⟩ | ⟨h, -⟩ | h
  · rw [h] at h1; exact absurd h1 (by decide)
  · exact ⟨h2, h4⟩
  · rw [h] at h1; exact absurd h1 (by decide)
  · rw [h] at h1; exact absurd h1 (by decide)
/-- the sign of a number -/
def sp_sg (r : Int32) : Int32 := if r < 0 then -1 else if r = 0 then 0 else 1
def sp_tc : List Int32 → List Int32 → Int32
  | [], [] => 0
  | [], _ :: _ => -1
  | _ :: _, [] => 1
  | a :: x, b :: y => if a = b then sp_tc x y else if a < b then -1 else 1
def sp_cmp (a b : Va) : Int32 := if a.1 = 1 then sp_tc a.2.2 b.2.2 else lg_cmp a.2.1 b.2.1
theorem sp_sg_cmp (x y : Int64) : sp_sg (lg_cmp x y) = lg_cmp x y := by
  unfold lg_cmp
  split
  · decide
  · split <;> decide
theorem ch_sub {a b : Int32} (ha : ch_ok a) (hb : ch_ok b) (hn : ¬ a = b) : sp_sg (a - b) = if a < b then -1 else 1 := by
  obtain ⟨a1, a2⟩ := ha
  obtain ⟨b1, b2⟩ := hb
  have h0 : (a - b).toInt = a.toInt - b.toInt := by
    rw [Int32.toInt_sub]
    have q1 := Int32.le_iff_toInt_le.mp a1
    have q2 := Int32.le_iff_toInt_le.mp a2
    have q3 := Int32.le_iff_toInt_le.mp b1
    have q4 := Int32.le_iff_toInt_le.mp b2
    have e1 : (32 : Int32).toInt = 32 := by decide
    have e2 : (126 : Int32).toInt = 126 := by decide
    rw [e1] at q1 q3
    rw [e2] at q2 q4
    exact Int.bmod_eq_of_le (by omega) (by omega)
  have e0 : (0 : Int32).toInt = 0 := by decide
  have hne : a.toInt ≠ b.toInt := fun h => hn (Int32.toInt_inj.mp h)
  unfold sp_sg
  by_cases h : a < b
  · have h1 := Int32.lt_iff_toInt_lt.mp h
    rw [if_pos h, if_pos (Int32.lt_iff_toInt_lt.mpr (by rw [h0, e0]; omega))]
  · have h1 : ¬ a.toInt < b.toInt := fun q => h (Int32.lt_iff_toInt_lt.mpr q)
    rw [if_neg h, if_neg (fun q => by have := Int32.lt_iff_toInt_lt.mp q; rw [h0, e0] at this; omega), if_neg (fun q => by have := congrArg Int32.toInt q; rw [h0, e0] at this; omega)]
theorem sp_tc_drop {x y : List Int32} : ∀ {k : Nat}, k ≤ x.length → k ≤ y.length → (∀ i, i < k → x.getD i 0 = y.getD i 0) → sp_tc x y = sp_tc (x.drop k) (y.drop k) := by
  induction x generalizing y with
  | nil => intro k h1 h2 h; have : k = 0 := by simpa using h1
           subst this; rfl
  | cons a x ih =>
    intro k h1 h2 h
    cases k with
    | zero => rfl
    | succ k =>
      cases y with
      | nil => simp at h2
      | cons b y =>
        have h0 : a = b := h 0 (Nat.succ_pos _)
        rw [List.drop_succ_cons, List.drop_succ_cons, ← ih (by simpa using h1) (by simpa using h2) (fun i hi => h (i + 1) (Nat.succ_lt_succ hi))]
        show (if a = b then _ else _) = _
        rw [if_pos h0]
theorem sp_tc_at {x y : List Int32} {k : Nat} (h1 : k < x.length) (h2 : k < y.length) (hn : ¬ x.getD k 0 = y.getD k 0) : sp_tc (x.drop k) (y.drop k) = if x.getD k 0 < y.getD k 0 then -1 else 1 := by
  rw [List.drop_eq_getElem_cons h1, List.drop_eq_getElem_cons h2]
  have e1 : x.getD k 0 = x[k] := by simp [List.getD, h1]
  have e2 : y.getD k 0 = y[k] := by simp [List.getD, h2]
  rw [e1, e2] at hn ⊢
  show (if _ then _ else _) = _
  rw [if_neg hn]
theorem sp_tc_end {x y : List Int32} {k : Nat} (hx : x.length < 2 ^ 31) (hy : y.length < 2 ^ 31) (h : k = min x.length y.length) : sp_tc (x.drop k) (y.drop k) = lg_cmp (lN x.length) (lN y.length) := by
  unfold lg_cmp
  by_cases h1 : x.length ≤ k
  · rw [List.drop_of_length_le h1]
    by_cases h2 : y.length ≤ k
    · rw [List.drop_of_length_le h2, show x.length = y.length by omega, if_neg (Int64.lt_irrefl), if_pos rfl]
      rfl
    · rw [List.drop_eq_getElem_cons (by omega : k < y.length), if_neg (fun q => by have := (lN_lt hy hx).mp q; omega), if_neg (fun q => by have := (lN_eq hx hy).mp q; omega)]
      rfl
  · rw [List.drop_eq_getElem_cons (by omega : k < x.length), List.drop_of_length_le (by omega : y.length ≤ k), if_pos ((lN_lt hy hx).mpr (by omega))]
    rfl
theorem s40_in {s i : Nat} (hs : s < 251) (hi : i < 40) : (nI s * 40 + nI i) = nI (s * 40 + i) := by
  rw [show (40 : Int32) = nI 40 from rfl, pk_mul, nI_add]
theorem mn_toI {a b : Nat} (ha : a < 2 ^ 31) (hb : b < 2 ^ 31) : (if lN b < lN a then lN b else lN a).toInt32 = nI (min a b) := by
  by_cases h : b < a
  · rw [if_pos ((lN_lt hb ha).mpr h), lN_i, show min a b = b by omega]
  · rw [if_neg (fun q => h ((lN_lt hb ha).mp q)), lN_i, show min a b = a by omega]
section ClSlots
variable {z : State} {l : Launch} {d : Nat} {σ : Hp} {ad : Nat → Nat} {w : Wd} {Q : Outcome → Hp → Prop}
theorem cl_Long_compare {x y : Int64} (hc : CW z σ ad) (k : Q (.returned (some (.int (lg_cmp x y)))) (ov σ ad 21 w)) : Go z l mt_JLong_compare (d + 9) 0 [.long x, .retAddr 0, .long y, .retAddr 0] [] (ov σ ad 21 w) Q := by
  have e : lg_cmp x y = if x > y then 1 else if x = y then 0 else -1 := rfl
  rw [e] at k
  refine cs_JLong_compare hc (fun h1 h2 => ?_) (fun h1 h2 => ?_) (fun h1 => ?_)
  · have h3 := (lg_cmp_ge x y).mp h1
    have h4 : ¬ x = y := fun q => h2 ((lg_cmp_eq x y).mpr q)
    rw [if_pos (Int64.lt_of_le_of_ne h3 (fun q => h4 q.symm))] at k
    exact k
  · have h4 := (lg_cmp_eq x y).mp h2
    subst h4
    rw [if_neg Int64.lt_irrefl, if_pos rfl] at k
    exact k
  · have h3 : ¬ y ≤ x := fun q => h1 ((lg_cmp_ge x y).mpr q)
    rw [if_neg (fun q => h3 (Int64.le_of_lt q)), if_neg (fun q => h3 (by rw [q]; exact Int64.le_refl _))] at k
    exact k
theorem cl_compare_loop {s t : Nat} {a b : Va} (hc : CW z σ ad) (hl : CLk w ad) (hs : s < 251) (ht : t < 251) (ha : SL w s a) (hb : SL w t b) (va : v_ok a) (vb : v_ok b) (ka : a.1 = 1) (kb : b.1 = 1) (k : ∀ r, sp_sg r = sp_tc a.2.2 b.2.2 → Q (.returned (some (.int r))) (ov σ ad 21 w)) :
    ∀ n j : Nat, j + n = min a.2.2.length b.2.2.length → (∀ i, i < j → a.2.2.getD i 0 = b.2.2.getD i 0) → Go z l mt_L_compare (d + 10) 40 [.ref (ad 3), .int (nI s), .int (nI t), .int (nI (min a.2.2.length b.2.2.length)), .int (nI j), .retAddr 0, .retAddr 0] [] (ov σ ad 21 w) Q := by
  have la := va.len
  have lb := vb.len
  obtain ⟨na, ca⟩ := va.text ka
  obtain ⟨nb, cb⟩ := vb.text kb
  have es : (nI s).toNatClampNeg = s := nI_clamp (by omega)
  have et : (nI t).toNatClampNeg = t := nI_clamp (by omega)
  intro n
  induction n with
  | zero =>
    intro j hj he
    refine cs_L_compare_40 (d := d + 1) hc hl (fun _ => vp_in_nI hs (by omega)) (fun _ => vp_in_nI ht (by omega)) (fun _ => ?_) (fun h => absurd (nI_le (by omega) (by omega)) h) (fun h => absurd (nI_le (by omega) (by omega)) h) (fun h => absurd (nI_le (by omega) (by omega)) h) (fun h => absurd (nI_le (by omega) (by omega)) h)
    refine cl_Long_compare hc (fun _ => gj_nextI (go_drop 3 (go_drop 4 (cs_L_compare_108 (d := d + 1) hc (k _ ?_)))))
    rw [es, et, ha.2.1, hb.2.1, na, nb, sp_sg_cmp, sp_tc_drop (k := j) (by omega) (by omega) he, sp_tc_end (by omega) (by omega) (by omega)]
  | succ n ih =>
    intro j hj he
    have hlt : ¬ nI (min a.2.2.length b.2.2.length) ≤ nI j := nI_ge (by omega) (by omega)
    have e1 : (nI s * 40 + nI j).toNatClampNeg = s * 40 + j := by rw [s40_in hs (by omega)]; exact nI_clamp (by omega)
    have e2 : (nI t * 40 + nI j).toNatClampNeg = t * 40 + j := by rw [s40_in ht (by omega)]; exact nI_clamp (by omega)
    have f1 := ha.2.2 j (by omega)
    have f2 := hb.2.2 j (by omega)
    refine cs_L_compare_40 (d := d + 1) hc hl (fun h => absurd h hlt) (fun h => absurd h hlt) (fun h => absurd h hlt) (fun _ => by rw [s40_in hs (by omega)]; exact vp_in_nI (by omega) (by omega)) (fun _ => by rw [s40_in ht (by omega)]; exact vp_in_nI (by omega) (by omega)) (fun _ h => ?_) (fun _ h => ?_)
    · rw [nI_1]
      rw [e1, e2, f1, f2] at h
      exact go_drop 5 (go_drop 6 (ih (j + 1) (by omega) (lt_s he h)))
    · rw [e1, e2, f1, f2] at h ⊢
      refine k _ ?_
      rw [sp_tc_drop (k := j) (by omega) (by omega) he, sp_tc_at (by omega) (by omega) h]
      exact ch_sub (ca _ (by rw [show a.2.2.getD j 0 = a.2.2[j]'(by omega) by simp [List.getD, show j < a.2.2.length by omega]]; exact List.getElem_mem _)) (cb _ (by rw [show b.2.2.getD j 0 = b.2.2[j]'(by omega) by simp [List.getD, show j < b.2.2.length by omega]]; exact List.getElem_mem _)) h
/-- two values of one kind -/
theorem cl_compare {s t : Nat} {a b : Va} (hc : CW z σ ad) (hl : CLk w ad) (hs : s < 251) (ht : t < 251) (ha : SL w s a) (hb : SL w t b) (va : v_ok a) (vb : v_ok b) (hk : a.1 = b.1) (k : ∀ r, sp_sg r = sp_cmp a b → Q (.returned (some (.int r))) (ov σ ad 21 w)) :
    Go z l mt_L_compare (d + 10) 0 [.ref (ad 3), .int (nI s), .int (nI t), .retAddr 0, .retAddr 0, .retAddr 0, .retAddr 0] [] (ov σ ad 21 w) Q := by
  have la := va.len
  have lb := vb.len
  have es : (nI s).toNatClampNeg = s := nI_clamp (by omega)
  have et : (nI t).toNatClampNeg = t := nI_clamp (by omega)
  have is : vp_in (nI s) 251 := vp_in_nI hs (by omega)
  have it : vp_in (nI t) 251 := vp_in_nI ht (by omega)
  refine cs_L_compare (d := d + 1) hc hl is (fun _ => is) (fun _ => it) (fun h => ?_) (fun _ => it) (fun _ _ => is) (fun _ _ => it) (fun h1 h2 => ?_) (fun _ _ => is) (fun _ _ => it) (fun h1 h2 => ?_)
  · rw [es, ha.1] at h
    refine cl_Long_compare hc (fun _ => gj_nextI (cs_L_compare_108 (d := d + 1) hc (k _ ?_)))
    rw [es, et, ha.2.1, hb.2.1, sp_sg_cmp, sp_cmp, if_neg h]
  · rw [es, ha.1] at h1
    rw [et, hb.1, ← hk] at h2
    exact absurd h1 h2
  · rw [es, ha.1] at h1
    rw [et, hb.1] at h2
    rw [es, et, ha.2.1, hb.2.1, (va.text h1).1, (vb.text h2).1, mn_toI (by omega) (by omega)]
    refine cl_compare_loop hc hl hs ht ha hb va vb h1 h2 (fun r hr => k r ?_) (min a.2.2.length b.2.2.length) 0 (by omega) (fun i hi => absurd hi (Nat.not_lt_zero _))
    rw [sp_cmp, if_pos h1]
    exact hr
end ClSlots
