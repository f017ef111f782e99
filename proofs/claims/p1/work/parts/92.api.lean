/-! ===== the checker, whole ===== -/
theorem cl_check {z : State} {l : Launch} {d : Nat} {σ : Hp} {ad : Nat → Nat} {Q : Outcome → Hp → Prop} {op sg : Nat → Nat} {aO aS mO mS : Nat} {ko : Nat → Nat} {w : Wd} {len : Nat} {kn : Nat → Int32} {m : Ex} {ko0 : Nat → Nat} {ar0 : Nat → Int64} (r : RepK m 0 len ko0 ar0) (hlen : 0 < len) (hp : CP z σ ad op sg aO aS mO mS ko w len kn) (hj : ∀ j, j < len → ko j = ko0 j ∧ w.eJ 10 j = ar0 j)
    (ok : (m.1 kn).1 = 0 → ∀ w', CF w w' → w'.I 18 35 = (m.1 kn).2 → Q (.returned (some (.int 0))) (ov σ ad 21 w'))
    (er : ¬ (m.1 kn).1 = 0 → ∀ w', CF w w' → Q (.returned (some (.int (m.1 kn).1))) (ov σ ad 21 w')) :
    Go z l mt_C_check (d + 20) 0 [.ref (ad 18), .ref (ad 8), .ref (ad 2), .retAddr 0, .retAddr 0, .retAddr 0] [] (ov σ ad 21 w) Q := by
  have f1 : CF w ((w.setI 18 33 0).setI 18 34 0) := (cf_33 w 0).trans (cf_34 _ 0)
  refine cs_C_check (d := d + 11) hp.1 ?_
  refine r z l d σ ad Q op sg aO aS mO mS ko ((w.setI 18 33 0).setI 18 34 0) len kn [] (hp.cf f1) (Nat.le_refl _) (fun j _ a2 => hj j a2) ⟨rfl, rfl, fun j hj => absurd hj (Nat.not_lt_zero _)⟩ (Nat.zero_le _) (fun e1 w2 f2 hS2 => ?_) (fun e1 w2 f2 => er e1 w2 (f1.trans f2))
  have hp2 := hp.cf (f1.trans f2)
  refine hk_end (sz := 1) hp2.1 hp2.2.1 hp2.2.2.1 hp2.2.2.2.1 hp2.2.2.2.2.1 hp2.2.2.2.2.2.1 (Nat.le_refl _) hp2.2.2.2.2.2.1 hS2.1 hS2.2.1 (by decide) (by decide) (ok e1 _ ((f1.trans f2).trans (cf_35 _ _)) ?_)
  exact hS2.2.2 0 (by simp)
/-! ===== what a bench is: tape, kinds, registers, THE VALUE, X, place, error ===== -/
abbrev Ab : Type := (Nat → Int32) × Nat × (Nat → Int32) × (Nat → Va) × Va × Option Ex × Int32 × Int32
def Ab.T (a : Ab) : Nat → Int32 := a.1
def Ab.n (a : Ab) : Nat := a.2.1
def Ab.kn (a : Ab) : Nat → Int32 := a.2.2.1
def Ab.R (a : Ab) : Nat → Va := a.2.2.2.1
def Ab.hv (a : Ab) : Va := a.2.2.2.2.1
def Ab.X (a : Ab) : Option Ex := a.2.2.2.2.2.1
def Ab.pl (a : Ab) : Int32 := a.2.2.2.2.2.2.1
def Ab.er (a : Ab) : Int32 := a.2.2.2.2.2.2.2
/-- what of it is always so -/
def Ab.ok (a : Ab) : Prop := a.n ≤ 1000 ∧ (∀ r, r < 8 → (a.kn r = 0 ∨ a.kn r = 1 ∨ a.kn r = 2) ∧ ty_ok (a.kn r) (a.R r)) ∧ v_ok a.hv ∧ v_in a.hv
/-- the steps of X in the rows of the program -/
def PG (op : Nat → Nat) (w : Wd) : Option Ex → Prop
  | none => w.I 8 19 = 0
  | some m => ∃ len c ko0, 0 < len ∧ len ≤ 1000 ∧ c ≤ 1000 ∧ w.I 8 19 = nI len ∧ (∀ j, j < len → w.eA 9 j = some (op (ko0 j)) ∧ ko0 j < 43) ∧ Rep m 0 len c ko0 (w.eJ 10) (w.eI 11) ∧ m.2.2 ≤ 241
/-- the class's cells stand for it -/
def CI (z : State) (σ : Hp) (ad op sg : Nat → Nat) (aO aS mO mS : Nat) (w : Wd) (a : Ab) : Prop :=
  PP z σ ad op sg aO aS mO mS 0 ∧ CLk w ad ∧ w.I 0 1 = nI a.n ∧ w.eI 1 = a.T ∧ (∀ r, r < 8 → w.eI 2 r = a.kn r) ∧ (∃ S, SLS w S ∧ (∀ r, r < 8 → S r = a.R r) ∧ S 8 = a.hv) ∧ w.I 0 9 = a.pl ∧ w.I 0 10 = a.er ∧ PG op w a.X ∧ (∃ ko, RO w op ko) ∧ (∃ ko : Nat → Nat, ∀ j, j < 1000 → w.eA 13 j = some (op (ko j)) ∧ ko j < 43)
/-! calls: the exception that is thrown (0: none), what is answered, what there is then -/
def sp_end (x : Int32) (a : Ab) : Nat × Int32 × Ab := if 0 ≤ x ∧ x ≤ nI a.n then (0, x, (a.T, x.toNatClampNeg, a.2.2)) else (1, 0, a)
def sp_clear (r k : Int32) (a : Ab) : Nat × Ab := if 0 ≤ r ∧ r ≤ 7 ∧ 0 ≤ k ∧ k ≤ 2 then (0, (a.T, a.n, va_up a.kn r.toNatClampNeg k, va_up a.R r.toNatClampNeg v_null, a.2.2.2.2)) else (1, a)
def sp_fitn (k : Int32) (v : Int64) : Prop := (k = 0 ∧ -9007199254740991 ≤ v.toInt ∧ v.toInt ≤ 9007199254740991) ∨ (k = 2 ∧ (v = 0 ∨ v = 1))
def sp_count (x : Int32) (a : Ab) : Nat × Int32 := if 0 ≤ x ∧ x ≤ 2 then (0, if x = 0 then nI a.n else if x = 1 then a.pl else a.er) else (1, 0)
theorem ab_eta (a : Ab) : (a.T, a.n, a.kn, a.R, a.hv, a.X, a.pl, a.er) = a := rfl
theorem i32_pos {x : Int32} (h : ¬ x < 0) : 0 ≤ x := Int32.not_lt.mp h
section Api
variable {z : State} {l : Launch} {d : Nat} {σ : Hp} {ad : Nat → Nat} {Q : Outcome → Hp → Prop} {op sg : Nat → Nat} {aO aS mO mS : Nat} {w : Wd} {a : Ab}
theorem CI.wd {w' : Wd} (h : CI z σ ad op sg aO aS mO mS w a) (hk : ∀ i f, i ≠ 0 → w'.I i f = w.I i f) (hJ : w'.J = w.J) (hA : w'.A = w.A) (h1 : w'.eI = w.eI) (h2 : w'.eJ = w.eJ) (h3 : w'.eA = w.eA) {a' : Ab} (e1 : w'.I 0 1 = nI a'.n) (e2 : w'.eI 1 = a'.T) (e3 : a'.kn = a.kn) (e4 : a'.R = a.R) (e5 : a'.hv = a.hv) (e6 : a'.X = a.X) (e7 : w'.I 0 9 = a'.pl) (e8 : w'.I 0 10 = a'.er) : CI z σ ad op sg aO aS mO mS w' a' := by
  obtain ⟨c1, c2, c3, c4, c5, ⟨S, c6, c7, c8⟩, c9, c10, c11, c12, c13⟩ := h
  refine ⟨c1, fun q hq => by rw [hA]; exact c2 q hq, e1, e2, by rw [h1, e3]; exact c5, ⟨S, ?_, by rw [e4]; exact c7, by rw [e5]; exact c8⟩, e7, e8, ?_, by unfold RO; rw [h3]; exact c12, by rw [h3]; exact c13⟩
  · intro s hs
    have := c6 s hs
    unfold SL at this ⊢
    rw [h1, h2]
    exact this
  · rw [e6]
    cases hx : a.X with
    | none =>
      rw [hx] at c11
      exact (hk 8 19 (by decide)).trans c11
    | some m =>
      rw [hx] at c11
      obtain ⟨len, c, ko0, g1, g2, g3, g4, g5, g6, g7⟩ := c11
      exact ⟨len, c, ko0, g1, g2, g3, (hk 8 19 (by decide)).trans g4, by rw [h3]; exact g5, by rw [h1, h2]; exact g6, g7⟩
theorem ac_end {x : Int32} (hI : CI z σ ad op sg aO aS mO mS w a) (ha : a.n ≤ 1000) (k0 : (sp_end x a).1 = 0 → ∀ w', CI z σ ad op sg aO aS mO mS w' (sp_end x a).2.2 → Q (.returned (some (.int (sp_end x a).2.1))) (ov σ ad 21 w')) (k1 : (sp_end x a).1 = 1 → (sp_end x a).2.2 = a → Q (.threw σ.nx) (ov (σ.newO 15 6) ad 21 w)) : Go z l mt_T_end (d + 9) 0 [.ref (ad 0), .int x] [] (ov σ ad 21 w) Q := by
  have hn := hI.2.2.1
  refine cs_T_end (d := d) hI.1.1 (fun h => ?_) (fun h h2 => ?_) (fun h h2 => ?_)
  · have e : sp_end x a = (1, 0, a) := if_neg (fun q => absurd h (Int32.not_lt.mpr q.1))
    rw [e] at k1
    exact k1 rfl rfl
  · rw [hn] at h2
    have e : sp_end x a = (0, x, (a.T, x.toNatClampNeg, a.2.2)) := if_pos ⟨i32_pos h, h2⟩
    rw [e] at k0
    obtain ⟨j, hj, rfl⟩ := nI_of h
    have hjn := (nI_leI hj (by omega)).mp h2
    refine k0 rfl _ (hI.wd (w' := w.setI 0 1 (nI j)) (fun i f hi => (up22_eq _ _ _ _ _ _).trans (if_neg (fun q => hi q.1))) rfl rfl rfl rfl rfl ?_ hI.2.2.2.1 rfl rfl rfl rfl hI.2.2.2.2.2.2.1 hI.2.2.2.2.2.2.2.1)
    show nI j = nI (nI j).toNatClampNeg
    rw [nI_clamp hj]
  · rw [hn] at h2
    have e : sp_end x a = (1, 0, a) := if_neg (fun q => h2 q.2)
    rw [e] at k1
    exact k1 rfl rfl
theorem ac_count {x : Int32} (hI : CI z σ ad op sg aO aS mO mS w a) (k0 : (sp_count x a).1 = 0 → Q (.returned (some (.int (sp_count x a).2))) (ov σ ad 21 w)) (k1 : (sp_count x a).1 = 1 → Q (.threw σ.nx) (ov (σ.newO 15 6) ad 21 w)) : Go z l mt_T_count (d + 9) 0 [.ref (ad 0), .int x] [] (ov σ ad 21 w) Q := by
  have y : ¬ x < 0 → x ≤ 2 → ∀ v, (if x = 0 then nI a.n else if x = 1 then a.pl else a.er) = v → Q (.returned (some (.int v))) (ov σ ad 21 w) := fun h h2 v hv => by
    have e : sp_count x a = (0, v) := (if_pos ⟨i32_pos h, h2⟩).trans (by rw [hv])
    rw [e] at k0
    exact k0 rfl
  have n : ¬ (0 ≤ x ∧ x ≤ 2) → Q (.threw σ.nx) (ov (σ.newO 15 6) ad 21 w) := fun h => by
    have e : sp_count x a = (1, 0) := if_neg h
    rw [e] at k1
    exact k1 rfl
  refine cs_T_count (d := d) hI.1.1 (fun h => n (fun q => absurd h (Int32.not_lt.mpr q.1))) (fun h h2 h3 h4 => y h h2 _ ?_) (fun h h2 h3 h4 => y h h2 _ ?_) (fun h h2 h3 => y h h2 _ ?_) (fun h h2 => n (fun q => h2 q.2))
  · rw [if_neg h3, if_neg h4]; exact hI.2.2.2.2.2.2.2.1.symm
  · rw [if_neg h3, if_pos h4]; exact hI.2.2.2.2.2.2.1.symm
  · rw [if_pos h3]; exact hI.2.2.1.symm
end Api
