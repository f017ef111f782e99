/-! ===== clear, set, keep, value, text ===== -/
abbrev sp_fits_n (k : Int32) (v : Int64) : Prop := (k = 0 ∧ -9007199254740991 ≤ v.toInt ∧ v.toInt ≤ 9007199254740991) ∨ (k = 2 ∧ (v = 0 ∨ v = 1))
def sp_set (r : Int32) (v : Int64) (a : Ab) : Nat × Ab := if 0 ≤ r ∧ r ≤ 7 ∧ sp_fits_n (a.kn r.toNatClampNeg) v then (0, (a.T, a.n, a.kn, va_up a.R r.toNatClampNeg (a.kn r.toNatClampNeg, v, []), a.2.2.2.2)) else (1, a)
def sp_keep (r : Int32) (a : Ab) : Nat × Int32 × Ab := if 0 ≤ r ∧ r ≤ 7 then (if ¬ a.hv.1 = 3 ∧ ¬ a.hv.1 = a.kn r.toNatClampNeg then (0, 0, a) else (0, 1, (a.T, a.n, a.kn, va_up a.R r.toNatClampNeg a.hv, a.2.2.2.2))) else (1, 0, a)
def sp_value (x : Int32) (a : Ab) : Nat × Int64 := if 0 ≤ x ∧ x ≤ 5 then (0, if x = 0 then a.hv.2.1 else sp_pk (fun i => a.hv.2.2.getD (8 * x.toNatClampNeg - 8 + i) 0) 8) else (1, 0)
def sp_txt (r : Int32) (a : Ab) : Nat × Ab := if 0 ≤ r ∧ r ≤ 7 ∧ a.kn r.toNatClampNeg = 1 ∧ a.n ≤ 40 ∧ sc_alb (rowT a.T 0 a.n) = true then (0, (a.T, 0, a.kn, va_up a.R r.toNatClampNeg (1, lN a.n, rowT a.T 0 a.n), a.2.2.2.2)) else (1, (a.T, 0, a.2.2))
theorem lgc_lt0 {x y : Int64} : lg_cmp x y < 0 ↔ x.toInt < y.toInt := by
  unfold lg_cmp
  by_cases h1 : x > y
  · rw [if_pos h1]
    have := Int64.lt_iff_toInt_lt.mp h1
    exact ⟨fun q => absurd q (by decide), fun q => by omega⟩
  · rw [if_neg h1]
    have h1' : ¬ y.toInt < x.toInt := fun q => h1 (Int64.lt_iff_toInt_lt.mpr q)
    by_cases h2 : x = y
    · rw [if_pos h2]
      subst h2
      exact ⟨fun q => absurd q (by decide), fun q => by omega⟩
    · rw [if_neg h2]
      have h3 : ¬ x.toInt = y.toInt := fun q => h2 (Int64.toInt_inj.mp q)
      exact ⟨fun _ => by omega, fun _ => by decide⟩
theorem lgc_gt0 {x y : Int64} : 0 < lg_cmp x y ↔ y.toInt < x.toInt := by
  unfold lg_cmp
  by_cases h1 : x > y
  · rw [if_pos h1]
    exact ⟨fun _ => Int64.lt_iff_toInt_lt.mp h1, fun _ => by decide⟩
  · rw [if_neg h1]
    have h1' : ¬ y.toInt < x.toInt := fun q => h1 (Int64.lt_iff_toInt_lt.mpr q)
    refine ⟨fun q => ?_, fun q => absurd q h1'⟩
    split at q <;> exact absurd q (by decide)
theorem lgc_eq0 {x y : Int64} : lg_cmp x y = 0 ↔ x = y := by
  unfold lg_cmp
  by_cases h1 : x > y
  · rw [if_pos h1]
    refine ⟨fun q => absurd q (by decide), fun q => ?_⟩
    subst q
    have := Int64.lt_iff_toInt_lt.mp h1
    omega
  · rw [if_neg h1]
    by_cases h2 : x = y
    · rw [if_pos h2]; exact ⟨fun _ => h2, fun _ => rfl⟩
    · rw [if_neg h2]; exact ⟨fun q => absurd q (by decide), fun q => absurd q h2⟩
section Api3
variable {z : State} {l : Launch} {d : Nat} {σ : Hp} {ad : Nat → Nat} {Q : Outcome → Hp → Prop} {op sg : Nat → Nat} {aO aS mO mS : Nat} {w : Wd} {a : Ab}
theorem r8 {r : Int32} (h : ¬ r < 0) (h2 : r ≤ 7) : ∃ j, j < 8 ∧ r = nI j := by
  obtain ⟨j, hj, rfl⟩ := nI_of h
  exact ⟨j, by
    have := (nI_leI hj (b := 7) (by omega)).mp h2
    omega, rfl⟩
/-- the slots have changed, nothing else that counts -/
theorem CI.kf {w' : Wd} {a' : Ab} (h : CI z σ ad op sg aO aS mO mS w a) (hf : KF w w') (hS : ∃ S, SLS w' S ∧ (∀ r, r < 8 → S r = a'.R r) ∧ S 8 = a'.hv) (e1 : a'.n = a.n) (e2 : a'.T = a.T) (e3 : a'.kn = a.kn) (e4 : a'.X = a.X) (e5 : a'.pl = a.pl) (e6 : a'.er = a.er) : CI z σ ad op sg aO aS mO mS w' a' := by
  obtain ⟨c1, c2, c3, c4, c5, -, c9, c10, c11, ⟨ko, c12⟩, c13⟩ := h
  refine ⟨c1, hf.link c2, by rw [e1]; exact (hf.1 0 1 (by decide)).trans c3, by rw [e2, hf.2.2.2.1 1 (by decide) (by decide) (by decide)]; exact c4, by rw [e3, hf.2.2.2.1 2 (by decide) (by decide) (by decide)]; exact c5, hS, by rw [e5]; exact (hf.1 0 9 (by decide)).trans c9, by rw [e6]; exact (hf.1 0 10 (by decide)).trans c10, ?_, ⟨ko, hf.ro c12⟩, by rw [hf.2.2.2.2.2]; exact c13⟩
  rw [e4]
  cases hx : a.X with
  | none =>
    rw [hx] at c11
    exact (hf.1 8 19 (by decide)).trans c11
  | some m =>
    rw [hx] at c11
    obtain ⟨len, c, ko0, g1, g2, g3, g4, g5, g6, g7⟩ := c11
    exact ⟨len, c, ko0, g1, g2, g3, (hf.1 8 19 (by decide)).trans g4, by rw [hf.2.2.2.2.2]; exact g5, by rw [hf.2.2.2.2.1 10 (by decide), hf.2.2.2.1 11 (by decide) (by decide) (by decide)]; exact g6, g7⟩
theorem up_R {S R : Nat → Va} {j : Nat} {v : Va} (h : ∀ r, r < 8 → S r = R r) : ∀ r, r < 8 → va_up S j v r = va_up R j v r := fun r hr => by
  by_cases hj : r = j
  · rw [hj, hp_up_same, hp_up_same]
  · rw [hp_up_ne _ _ hj, hp_up_ne _ _ hj]; exact h r hr
theorem ac_clear {x1 x2 : Int32} (hI : CI z σ ad op sg aO aS mO mS w a) (k0 : (sp_clear x1 x2 a).1 = 0 → ∀ w', CI z σ ad op sg aO aS mO mS w' (sp_clear x1 x2 a).2 → Q (.returned none) (ov σ ad 21 w')) (k1 : (sp_clear x1 x2 a).1 = 1 → (sp_clear x1 x2 a).2 = a → Q (.threw σ.nx) (ov (σ.newO 15 6) ad 21 w)) : Go z l mt_T_clear (d + 9) 0 [.ref (ad 0), .int x1, .int x2] [] (ov σ ad 21 w) Q := by
  have no : ¬ (0 ≤ x1 ∧ x1 ≤ 7 ∧ 0 ≤ x2 ∧ x2 ≤ 2) → Q (.threw σ.nx) (ov (σ.newO 15 6) ad 21 w) := fun h => by
    have e : sp_clear x1 x2 a = (1, a) := if_neg h
    rw [e] at k1
    exact k1 rfl rfl
  have vi : ∀ n, 8 ≤ n → n < 2 ^ 31 → ¬ x1 < 0 → x1 ≤ 7 → vp_in x1 n := fun n h8 hn h h2 => by
    obtain ⟨j, hj, rfl⟩ := r8 h h2
    exact vp_in_nI (by omega) hn
  refine cs_T_clear (d := d) hI.1.1 hI.2.1 (fun h => no (fun q => absurd h (Int32.not_lt.mpr q.1))) (fun _ _ h => no (fun q => absurd h (Int32.not_lt.mpr q.2.2.1))) (fun h h2 _ _ => vi 8 (by decide) (by decide) h h2) (fun h h2 _ _ => vi 251 (by decide) (by decide) h h2) (fun h h2 _ _ => vi 251 (by decide) (by decide) h h2) (fun h h2 h3 h4 => ?_) (fun _ _ _ h => no (fun q => h q.2.2.2)) (fun _ h => no (fun q => h q.2.1))
  have e : sp_clear x1 x2 a = (0, (a.T, a.n, va_up a.kn x1.toNatClampNeg x2, va_up a.R x1.toNatClampNeg v_null, a.2.2.2.2)) := if_pos ⟨i32_pos h, h2, i32_pos h3, h4⟩
  rw [e] at k0
  obtain ⟨j, hj, rfl⟩ := r8 h h2
  rw [nI_clamp (by omega)] at k0 ⊢
  refine k0 rfl _ ?_
  obtain ⟨c1, c2, c3, c4, c5, ⟨S, c6, c7, c8⟩, c9, c10, c11, c12, c13⟩ := hI
  have hS : SLS (w.rowI 2 (va_up (w.eI 2) j x2)) S := fun s hs => c6 s hs
  refine ⟨c1, c2, c3, c4, fun r hr => ?_, ⟨va_up S j (3, 0, []), hS.num j (Or.inr (Or.inr (Or.inr rfl))), up_R c7, (hp_up_ne _ _ (by omega)).trans c8⟩, c9, c10, c11, c12, c13⟩
  show va_up (w.eI 2) j x2 r = va_up a.kn j x2 r
  by_cases hr2 : r = j
  · rw [hr2, hp_up_same, hp_up_same]
  · rw [hp_up_ne _ _ hr2, hp_up_ne _ _ hr2]; exact c5 r hr
theorem ac_set {x1 : Int32} {x2 : Int64} (hI : CI z σ ad op sg aO aS mO mS w a) (k0 : (sp_set x1 x2 a).1 = 0 → ∀ w', CI z σ ad op sg aO aS mO mS w' (sp_set x1 x2 a).2 → Q (.returned none) (ov σ ad 21 w')) (k1 : (sp_set x1 x2 a).1 = 1 → (sp_set x1 x2 a).2 = a → Q (.threw σ.nx) (ov (σ.newO 15 6) ad 21 w)) : Go z l mt_T_set (d + 9) 0 [.ref (ad 0), .int x1, .long x2, .retAddr 0] [] (ov σ ad 21 w) Q := by
  have no : ¬ (0 ≤ x1 ∧ x1 ≤ 7 ∧ sp_fits_n (a.kn x1.toNatClampNeg) x2) → Q (.threw σ.nx) (ov (σ.newO 15 6) ad 21 w) := fun h => by
    have e : sp_set x1 x2 a = (1, a) := if_neg h
    rw [e] at k1
    exact k1 rfl rfl
  have vi : ∀ n, 8 ≤ n → n < 2 ^ 31 → ¬ x1 < 0 → x1 ≤ 7 → vp_in x1 n := fun n h8 hn h h2 => by
    obtain ⟨j, hj, rfl⟩ := r8 h h2
    exact vp_in_nI (by omega) hn
  have ek : ¬ x1 < 0 → x1 ≤ 7 → w.eI 2 x1.toNatClampNeg = a.kn x1.toNatClampNeg := fun h h2 => by
    obtain ⟨j, hj, rfl⟩ := r8 h h2
    rw [nI_clamp (by omega)]
    exact hI.2.2.2.2.1 j hj
  have eM : ((9007199254740991 : Int64)).toInt = 9007199254740991 := by decide
  have eN : ((-9007199254740991 : Int64)).toInt = -9007199254740991 := by decide
  have yes : (hh : ¬ x1 < 0) → (h2 : x1 ≤ 7) → sp_fits_n (a.kn x1.toNatClampNeg) x2 → Q (.returned none) (ov σ ad 21 ((w.rowI 4 (va_up (w.eI 4) x1.toNatClampNeg (w.eI 2 x1.toNatClampNeg))).rowJ 5 (va_up ((w.rowI 4 (va_up (w.eI 4) x1.toNatClampNeg (w.eI 2 x1.toNatClampNeg))).eJ 5) x1.toNatClampNeg x2))) := fun h h2 hf => by
    have e : sp_set x1 x2 a = (0, (a.T, a.n, a.kn, va_up a.R x1.toNatClampNeg (a.kn x1.toNatClampNeg, x2, []), a.2.2.2.2)) := if_pos ⟨i32_pos h, h2, hf⟩
    rw [e] at k0
    rw [ek h h2]
    obtain ⟨j, hj, rfl⟩ := r8 h h2
    rw [nI_clamp (by omega)] at k0 hf ⊢
    refine k0 rfl _ ?_
    obtain ⟨c1, c2, c3, c4, c5, ⟨S, c6, c7, c8⟩, c9, c10, c11, c12, c13⟩ := hI
    refine ⟨c1, c2, c3, c4, c5, ⟨va_up S j (a.kn j, x2, []), c6.num j ?_, up_R c7, (hp_up_ne _ _ (by omega)).trans c8⟩, c9, c10, c11, c12, c13⟩
    rcases hf with ⟨h0, -⟩ | ⟨h0, h1⟩
    · rw [h0]; exact Or.inl ⟨rfl, rfl⟩
    · rw [h0]; exact Or.inr (Or.inr (Or.inl ⟨rfl, h1, rfl⟩))
  refine cs_T_set (d := d) hI.1.1 hI.2.1 (fun h => no (fun q => absurd h (Int32.not_lt.mpr q.1))) (fun h h2 => vi 8 (by decide) (by decide) h h2) (fun h h2 h3 h4 => no (fun q => ?_)) (fun h h2 _ _ _ => vi 251 (by decide) (by decide) h h2) (fun h h2 _ _ _ => vi 251 (by decide) (by decide) h h2) (fun h h2 h3 h4 h5 => yes h h2 (Or.inr ⟨(ek h h2).symm.trans h4, Or.inl (lgc_eq0.mp h5)⟩)) (fun h h2 h3 h4 h5 h6 => no (fun q => ?_)) (fun h h2 _ _ _ _ => vi 251 (by decide) (by decide) h h2) (fun h h2 _ _ _ _ => vi 251 (by decide) (by decide) h h2) (fun h h2 h3 h4 h5 h6 => yes h h2 (Or.inr ⟨(ek h h2).symm.trans h4, Or.inr (lgc_eq0.mp h6)⟩)) (fun h h2 h3 h4 => no (fun q => ?_)) (fun h h2 h3 h4 h5 => no (fun q => ?_)) (fun h h2 _ _ _ => vi 251 (by decide) (by decide) h h2) (fun h h2 _ _ _ => vi 251 (by decide) (by decide) h h2) (fun h h2 h3 h4 h5 => yes h h2 (Or.inl ⟨(ek h h2).symm.trans h3, ?_, ?_⟩)) (fun _ h => no (fun q => h q.2.1))
  · rcases q.2.2 with ⟨q0, -⟩ | ⟨q0, -⟩
    · exact h3 ((ek h h2).trans q0)
    · exact h4 ((ek h h2).trans q0)
  · rcases q.2.2 with ⟨q0, -⟩ | ⟨-, q1⟩
    · exact h3 ((ek h h2).trans q0)
    · rcases q1 with q1 | q1
      · exact h5 (lgc_eq0.mpr q1)
      · exact h6 (lgc_eq0.mpr q1)
  · rcases q.2.2 with ⟨-, q1, q2⟩ | ⟨q0, -⟩
    · have := lgc_lt0.mp h4
      omega
    · exact absurd (((ek h h2).trans q0).symm.trans h3) (by decide)
  · rcases q.2.2 with ⟨-, q1, q2⟩ | ⟨q0, -⟩
    · have := lgc_gt0.mp h5
      omega
    · exact absurd (((ek h h2).trans q0).symm.trans h3) (by decide)
  · have : ¬ x2.toInt < ((-9007199254740991 : Int64)).toInt := fun q => h4 (lgc_lt0.mpr q)
    omega
  · have : ¬ ((9007199254740991 : Int64)).toInt < x2.toInt := fun q => h5 (lgc_gt0.mpr q)
    omega
theorem ac_keep {x1 : Int32} (hI : CI z σ ad op sg aO aS mO mS w a) (k0 : (sp_keep x1 a).1 = 0 → ∀ w', CI z σ ad op sg aO aS mO mS w' (sp_keep x1 a).2.2 → Q (.returned (some (.int (sp_keep x1 a).2.1))) (ov σ ad 21 w')) (k1 : (sp_keep x1 a).1 = 1 → (sp_keep x1 a).2.2 = a → Q (.threw σ.nx) (ov (σ.newO 15 6) ad 21 w)) : Go z l mt_T_keep (d + 10) 0 [.ref (ad 0), .int x1] [] (ov σ ad 21 w) Q := by
  have hI0 := hI
  obtain ⟨c1, c2, c3, c4, c5, ⟨S, c6, c7, c8⟩, c9, c10, c11, c12, c13⟩ := hI
  have no : ¬ (0 ≤ x1 ∧ x1 ≤ 7) → Q (.threw σ.nx) (ov (σ.newO 15 6) ad 21 w) := fun h => by
    have e : sp_keep x1 a = (1, 0, a) := if_neg h
    rw [e] at k1
    exact k1 rfl rfl
  have e8 : w.eI 4 (8 : Int32).toNatClampNeg = a.hv.1 := by rw [← c8]; exact (c6 8 (by decide)).1.1
  have ek : ¬ x1 < 0 → x1 ≤ 7 → w.eI 2 x1.toNatClampNeg = a.kn x1.toNatClampNeg := fun h h2 => by
    obtain ⟨j, hj, rfl⟩ := r8 h h2
    rw [nI_clamp (by omega)]
    exact c5 j hj
  have yes : ¬ x1 < 0 → x1 ≤ 7 → ¬ (¬ a.hv.1 = 3 ∧ ¬ a.hv.1 = a.kn x1.toNatClampNeg) → Go z l mt_L_copy (d + 9) 0 [.ref (ad 3), .int 8, .int x1, .retAddr 0] [] (ov σ ad 21 w) (fun o σ1 => hp_Le (ov σ ad 21 w) σ1 → gj_next z l mt_T_keep (d + 10) 46 [.ref (ad 0), .int x1] [] Q o σ1) := fun h h2 hf => by
    have e : sp_keep x1 a = (0, 1, (a.T, a.n, a.kn, va_up a.R x1.toNatClampNeg a.hv, a.2.2.2.2)) := (if_pos ⟨i32_pos h, h2⟩).trans (if_neg hf)
    rw [e] at k0
    obtain ⟨j, hj, rfl⟩ := r8 h h2
    rw [nI_clamp (by omega)] at k0
    refine cl_copy (d := d) (s := 8) (t := j) c1.1 c2 c6 (by decide) (by omega) (fun w1 f1 hS1 _ => gj_nextV (cs_T_keep_49 (d := d + 1) c1.1 (k0 rfl w1 (hI0.kf f1.kf ⟨_, hS1, ?_, ?_⟩ rfl rfl rfl rfl rfl rfl))))
    · rw [c8]; exact up_R c7
    · rw [c8]; exact (hp_up_ne _ _ (by omega)).trans c8
  refine cs_T_keep (d := d + 1) c1.1 c2 (fun h => no (fun q => absurd h (Int32.not_lt.mpr q.1))) (fun h h2 _ => ?_) (fun h h2 h3 h4 => yes h h2 (fun q => q.2 ?_)) (fun h h2 h3 h4 => ?_) (fun h h2 h3 => yes h h2 (fun q => q.1 (e8.symm.trans h3))) (fun _ h => no (fun q => h q.2))
  · obtain ⟨j, hj, rfl⟩ := r8 h h2
    exact vp_in_nI hj (by decide)
  · rw [← e8, h4, ek h h2]
  · have e : sp_keep x1 a = (0, 0, a) := (if_pos ⟨i32_pos h, h2⟩).trans (if_pos ⟨fun q => h3 (e8.trans q), fun q => h4 ((e8.trans q).trans (ek h h2).symm)⟩)
    rw [e] at k0
    exact k0 rfl w hI0
theorem ac_value {x1 : Int32} (hI : CI z σ ad op sg aO aS mO mS w a) (k0 : (sp_value x1 a).1 = 0 → Q (.returned (some (.long (sp_value x1 a).2))) (ov σ ad 21 w)) (k1 : (sp_value x1 a).1 = 1 → Q (.threw σ.nx) (ov (σ.newO 15 6) ad 21 w)) : Go z l mt_T_value (d + 10) 0 [.ref (ad 0), .int x1] [] (ov σ ad 21 w) Q := by
  obtain ⟨c1, c2, c3, c4, c5, ⟨S, c6, c7, c8⟩, c9, c10, c11, c12, c13⟩ := hI
  have no : ¬ (0 ≤ x1 ∧ x1 ≤ 5) → Q (.threw σ.nx) (ov (σ.newO 15 6) ad 21 w) := fun h => by
    have e : sp_value x1 a = (1, 0) := if_neg h
    rw [e] at k1
    exact k1 rfl
  refine cs_T_value (d := d + 1) c1.1 c2 (fun h => no (fun q => absurd h (Int32.not_lt.mpr q.1))) (fun h h2 h3 => ?_) (fun h h2 h3 => ?_) (fun _ h => no (fun q => h q.2))
  · obtain ⟨j, hj, rfl⟩ := nI_of h
    have hj5 := (nI_leI hj (b := 5) (by omega)).mp h2
    have hj0 : ¬ j = 0 := fun q => h3 (by rw [q]; rfl)
    have e : sp_value (nI j) a = (0, sp_pk (fun i => a.hv.2.2.getD (8 * j - 8 + i) 0) 8) := (if_pos ⟨i32_pos h, h2⟩).trans (by rw [if_neg h3, nI_clamp hj])
    rw [e] at k0
    have e8 : 8 * nI j - 8 = nI (8 * j - 8) := (by decide +kernel : ∀ j, j < 6 → 1 ≤ j → 8 * nI j - 8 = nI (8 * j - 8)) j (by omega) (by omega)
    rw [e8]
    refine cl_eight (d := d) (s := 8) (fr := 8 * j - 8) c1.1 c2 c6 (by decide) (by omega) (fun _ => gj_nextI (cs_T_value_38 (d := d + 1) c1.1 ?_))
    rw [c8]
    exact k0 rfl
  · have e : sp_value x1 a = (0, a.hv.2.1) := (if_pos ⟨i32_pos h, h2⟩).trans (by rw [if_pos h3])
    rw [e] at k0
    have e8 : w.eJ 5 (8 : Int32).toNatClampNeg = a.hv.2.1 := by rw [← c8]; exact (c6 8 (by decide)).1.2.1
    rw [e8]
    exact k0 rfl
end Api3
