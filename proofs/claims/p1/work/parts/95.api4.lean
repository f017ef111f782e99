/-! ===== text, kind, work ===== -/
/-- an error is told -/
def Ab.err (a : Ab) (e : Int32) : Ab := (a.T, a.n, a.kn, a.R, a.hv, a.X, a.pl, e)
def Ab.held (a : Ab) (v : Va) : Ab := (a.T, a.n, a.kn, a.R, v, a.X, a.pl, a.er)
def sp_kind (a : Ab) : Nat × Int32 × Ab := match a.X with
  | none => (1, 0, a)
  | some m => if ¬ (m.1 a.kn).1 = 0 then (2, 0, a.err (m.1 a.kn).1) else (0, (m.1 a.kn).2, a)
def sp_work (a : Ab) : Nat × Int32 × Ab := match a.X with
  | none => (1, 0, a)
  | some m => if ¬ (m.1 a.kn).1 = 0 then (2, 0, a.err (m.1 a.kn).1) else if ¬ (m.2.1 (rg a.R)).1 = 0 then (2, 0, a.err (m.2.1 (rg a.R)).1) else (0, if (m.2.1 (rg a.R)).2.1 = 3 then 0 else 1, a.held (m.2.1 (rg a.R)).2)
section Api4
variable {z : State} {l : Launch} {d : Nat} {σ : Hp} {ad : Nat → Nat} {Q : Outcome → Hp → Prop} {op sg : Nat → Nat} {aO aS mO mS : Nat} {w : Wd} {a : Ab}
theorem cl_chars {T : Nat → Int32} {n : Nat} (hc : CW z σ ad) (hT : ∀ j, j < n → w.eI 1 j = T j) (hn : n ≤ 1000) (k : Q (.returned (some (.int (b2i (sc_alb (rowT T 0 n)))))) (ov σ ad 21 w)) : Go z l mt_T_areCharacters (d + 9) 0 [.ref (ad 1), .int (nI n), .retAddr 0] [] (ov σ ad 21 w) Q := by
  have ky : (∀ j, j < n → sc_chr (T j)) → Q (.returned (some (.int 1))) (ov σ ad 21 w) := fun h => by
    have e : sc_alb (rowT T 0 n) = true := alb_iff.mpr (fun c hc => by
      simp only [rowT, List.mem_map, List.mem_range, Nat.zero_add] at hc
      obtain ⟨i, hi, rfl⟩ := hc
      exact h i hi)
    rw [e] at k
    exact k
  have kn : ∀ j, j < n → ¬ sc_chr (T j) → Q (.returned (some (.int 0))) (ov σ ad 21 w) := fun j hj h => by
    have e : sc_alb (rowT T 0 n) = false := by
      rw [← Bool.not_eq_true]
      exact fun q => h (alb_iff.mp q _ (by
        simp only [rowT, List.mem_map, List.mem_range, Nat.zero_add]
        exact ⟨j, hj, rfl⟩))
    rw [e] at k
    exact k
  have loop : ∀ (m i : Nat), i + m = n → (∀ j, j < i → sc_chr (T j)) → Go z l mt_T_areCharacters (d + 9) 2 [.ref (ad 1), .int (nI n), .int (nI i)] [] (ov σ ad 21 w) Q := by
    intro m
    induction m with
    | zero =>
      intro i hi h
      have q : nI n ≤ nI i := nI_le (by omega) (by omega)
      exact cs_T_areCharacters_2 (d := d) hc (fun _ => ky (fun j hj => h j (by omega))) (fun h => absurd q h) (fun h => absurd q h) (fun h => absurd q h) (fun h => absurd q h)
    | succ m ih =>
      intro i hi h
      have q : ¬ nI n ≤ nI i := nI_ge (by omega) (by omega)
      have eb : w.eI 1 (nI i).toNatClampNeg = T i := by rw [nI_clamp (by omega)]; exact hT i (by omega)
      refine cs_T_areCharacters_2 (d := d) hc (fun h => absurd h q) (fun _ => vp_in_nI (by omega) (by omega)) (fun _ h2 => kn i (by omega) (fun q2 => ?_)) (fun _ _ h2 => kn i (by omega) (fun q2 => ?_)) (fun _ h2 h3 => ?_)
      · rw [eb] at h2; exact (chr_iff.mp q2).1 h2
      · rw [eb] at h2; exact (chr_iff.mp q2).2 h2
      · rw [eb] at h2 h3
        rw [nI_1]
        refine ih (i + 1) (by omega) (fun j hj => ?_)
        by_cases hji : j = i
        · rw [hji]; exact chr_iff.mpr ⟨h2, h3⟩
        · exact h j (by omega)
  exact cs_T_areCharacters (d := d) hc (loop n 0 (Nat.zero_add _) (fun j hj => absurd hj (Nat.not_lt_zero _)))
theorem rowT_cg {f g : Nat → Int32} {n : Nat} (h : ∀ j, j < n → f j = g j) : rowT f 0 n = rowT g 0 n := by
  unfold rowT
  refine List.map_congr_left (fun i hi => ?_)
  rw [Nat.zero_add]
  exact h i (List.mem_range.mp hi)
theorem ac_text {x1 : Int32} (hI : CI z σ ad op sg aO aS mO mS w a) (ha : a.n ≤ 1000) (k0 : (sp_txt x1 a).1 = 0 → ∀ w', CI z σ ad op sg aO aS mO mS w' (sp_txt x1 a).2 → Q (.returned none) (ov σ ad 21 w')) (k1 : (sp_txt x1 a).1 = 1 → ∀ w', CI z σ ad op sg aO aS mO mS w' (sp_txt x1 a).2 → Q (.threw σ.nx) (ov (σ.newO 15 6) ad 21 w')) : Go z l mt_T_text (d + 10) 0 [.ref (ad 0), .int x1, .retAddr 0] [] (ov σ ad 21 w) Q := by
  have hI1 : CI z σ ad op sg aO aS mO mS (w.setI 0 1 0) (a.T, 0, a.2.2) := hI.wd (w' := w.setI 0 1 0) (fun i f hi => (up22_eq _ _ _ _ _ _).trans (if_neg (fun q => hi q.1))) rfl rfl rfl rfl rfl rfl hI.2.2.2.1 rfl rfl rfl rfl hI.2.2.2.2.2.2.1 hI.2.2.2.2.2.2.2.1
  obtain ⟨c1, c2, c3, c4, c5, ⟨S, c6, c7, c8⟩, c9, c10, c11, c12, c13⟩ := hI
  have no : ¬ (0 ≤ x1 ∧ x1 ≤ 7 ∧ a.kn x1.toNatClampNeg = 1 ∧ a.n ≤ 40 ∧ sc_alb (rowT a.T 0 a.n) = true) → Q (.threw σ.nx) (ov (σ.newO 15 6) ad 21 (w.setI 0 1 0)) := fun h => by
    have e : sp_txt x1 a = (1, (a.T, 0, a.2.2)) := if_neg h
    rw [e] at k1
    exact k1 rfl _ hI1
  have ek : ¬ x1 < 0 → x1 ≤ 7 → w.eI 2 x1.toNatClampNeg = a.kn x1.toNatClampNeg := fun h h2 => by
    obtain ⟨j, hj, rfl⟩ := r8 h h2
    rw [nI_clamp (by omega)]
    exact c5 j hj
  have e40 : 40 < w.I 0 1 ↔ 40 < a.n := by rw [c3]; exact nI_ltI (a := 40) (by omega) (by omega)
  refine cs_T_text (d := d + 1) c1.1 c2 (fun h => no (fun q => absurd h (Int32.not_lt.mpr q.1))) (fun h h2 => ?_) (fun h h2 h3 => no (fun q => h3 ((ek h h2).trans q.2.2.1))) (fun h h2 h3 h4 => no (fun q => by have := e40.mp h4; omega)) (fun h h2 h3 h4 => ?_) (fun _ h => no (fun q => h q.2.1))
  · obtain ⟨j, hj, rfl⟩ := r8 h h2
    exact vp_in_nI hj (by decide)
  · have h40 : a.n ≤ 40 := Nat.le_of_not_lt (fun q => h4 (e40.mpr q))
    rw [c3]
    refine cl_chars (d := d) (T := a.T) c1.1 (fun j _ => congrFun c4 j) ha (fun _ => gj_nextI (cs_T_text_40 (d := d + 1) c1.1 c2 (fun h5 => ?_) (fun h5 => no (fun q => ?_))))
    · have h5' := b2i_n.mp h5
      have e : sp_txt x1 a = (0, (a.T, 0, a.kn, va_up a.R x1.toNatClampNeg (1, lN a.n, rowT a.T 0 a.n), a.2.2.2.2)) := if_pos ⟨i32_pos h, h2, (ek h h2).symm.trans h3, h40, h5'⟩
      rw [e] at k0
      obtain ⟨j, hj, rfl⟩ := r8 h h2
      rw [nI_clamp (by omega)] at k0
      have er : rowT ((w.setI 0 1 0).eI 1) 0 a.n = rowT a.T 0 a.n := rowT_cg (fun j _ => congrFun c4 j)
      refine cl_putText_1 (d := d) (w := w.setI 0 1 0) (s := j) (st := 0) (n := a.n) c1.1 c2 c6 (by omega) (by omega) h40 (fun i hi => ?_) (fun w1 f1 hS1 _ => gj_nextV (cs_T_text_65 (d := d + 1) c1.1 (k0 rfl w1 (hI1.kf f1.kf ⟨_, hS1, ?_, (hp_up_ne _ _ (by omega)).trans c8⟩ rfl rfl rfl rfl rfl rfl))))
      · rw [Nat.zero_add]
        show ch_ok (w.eI 1 i)
        rw [c4]
        exact alb_iff.mp h5' _ (by
          simp only [rowT, List.mem_map, List.mem_range, Nat.zero_add]
          exact ⟨i, hi, rfl⟩)
      · rw [er]
        exact up_R c7
    · rw [b2i_0.mp h5] at q
      exact absurd q.2.2.2.2 (by decide)
/-- only the checker's own things have changed -/
theorem CI.cf {w' : Wd} (h : CI z σ ad op sg aO aS mO mS w a) (hf : CF w w') : CI z σ ad op sg aO aS mO mS w' a := by
  obtain ⟨c1, c2, c3, c4, c5, ⟨S, c6, c7, c8⟩, c9, c10, c11, ⟨ko, c12⟩, c13⟩ := h
  refine ⟨c1, fun q hq => by rw [hf.2.2.1]; exact c2 q hq, (hf.1 0 1 (by decide)).trans c3, by rw [hf.2.2.2.1 1 (by decide)]; exact c4, by rw [hf.2.2.2.1 2 (by decide)]; exact c5, ⟨S, fun s hs => ?_, c7, c8⟩, (hf.1 0 9 (by decide)).trans c9, (hf.1 0 10 (by decide)).trans c10, ?_, ⟨ko, fun j hj => by rw [hf.2.2.2.2.2]; exact c12 j hj⟩, by rw [hf.2.2.2.2.2]; exact c13⟩
  · have := c6 s hs
    unfold SL at this ⊢
    rw [hf.2.2.2.1 4 (by decide), hf.2.2.2.1 6 (by decide), hf.2.2.2.2.1]
    exact this
  · cases hx : a.X with
    | none =>
      rw [hx] at c11
      exact (hf.1 8 19 (by decide)).trans c11
    | some m =>
      rw [hx] at c11
      obtain ⟨len, c, ko0, g1, g2, g3, g4, g5, g6, g7⟩ := c11
      exact ⟨len, c, ko0, g1, g2, g3, (hf.1 8 19 (by decide)).trans g4, by rw [hf.2.2.2.2.2]; exact g5, by rw [hf.2.2.2.2.1, hf.2.2.2.1 11 (by decide)]; exact g6, g7⟩
theorem CI.er {e : Int32} (h : CI z σ ad op sg aO aS mO mS w a) : CI z σ ad op sg aO aS mO mS (w.setI 0 10 e) (a.err e) :=
  h.wd (w' := w.setI 0 10 e) (fun i f hi => (up22_eq _ _ _ _ _ _).trans (if_neg (fun q => hi q.1))) rfl rfl rfl rfl rfl h.2.2.1 h.2.2.2.1 rfl rfl rfl rfl h.2.2.2.2.2.2.1 rfl
/-- the kind of X, checked -/
theorem ac_checked (hI : CI z σ ad op sg aO aS mO mS w a) (k0 : ∀ m, a.X = some m → (m.1 a.kn).1 = 0 → ∀ w', CI z σ ad op sg aO aS mO mS w' a → Q (.returned (some (.int (m.1 a.kn).2))) (ov σ ad 21 w')) (k1 : a.X = none → Q (.threw σ.nx) (ov (σ.newO 17 6) ad 21 w)) (k2 : ∀ m, a.X = some m → ¬ (m.1 a.kn).1 = 0 → ∀ w', CI z σ ad op sg aO aS mO mS w' (a.err (m.1 a.kn).1) → Q (.threw σ.nx) (ov (σ.newO 18 6) ad 21 w')) : Go z l mt_T_checkedKind (d + 21) 0 [.ref (ad 0)] [] (ov σ ad 21 w) Q := by
  have hI0 := hI
  obtain ⟨c1, c2, c3, c4, c5, ⟨S, c6, c7, c8⟩, c9, c10, c11, ⟨ko, c12⟩, c13⟩ := hI
  cases hx : a.X with
  | none =>
    rw [hx] at c11
    exact cs_T_checkedKind (d := d + 12) c1.1 c2 (fun h => absurd c11 h) (fun _ => k1 hx)
  | some m =>
    rw [hx] at c11
    obtain ⟨len, c, ko0, g1, g2, g3, g4, g5, g6, g7⟩ := c11
    have hne : ¬ w.I 8 19 = 0 := fun q => by
      rw [g4] at q
      have := (nI_eq (a := len) (b := 0) (by omega) (by omega)).mp q
      omega
    refine cs_T_checkedKind (d := d + 12) c1.1 c2 (fun _ => ?_) (fun h => absurd h hne)
    refine cl_check (d := d) (ko := ko) (kn := a.kn) g6.2.2.1 g1 ⟨c1.1, c1.2.1, c2, c12, g4, g2, c1.2.2.1, c5⟩ (fun j hj => ⟨?_, rfl⟩) (fun e1 w1 f1 hk1 _ => gj_nextI (cs_T_checkedKind_34 (d := d + 12) c1.1 (hI0.cf f1).2.1 (fun _ => ?_) (fun h => absurd rfl h))) (fun e1 w1 f1 _ => gj_nextI (cs_T_checkedKind_34 (d := d + 12) c1.1 (hI0.cf f1).2.1 (fun h => absurd h e1) (fun _ => k2 m hx e1 _ (hI0.cf f1).er)))
    · have h1 := c12 j (by omega)
      have h2 := g5 j hj
      exact op_inj c1.2.1 h1.2 h2.2 (h1.1.symm.trans h2.1)
    · rw [hk1]
      exact k0 m hx e1 w1 (hI0.cf f1)
end Api4
