/-! ===== what is always so of a bench, stays so ===== -/
theorem ok_up {kn : Nat → Int32} {R : Nat → Va} {j : Nat} {k : Int32} {v : Va} (h : ∀ r, r < 8 → (kn r = 0 ∨ kn r = 1 ∨ kn r = 2) ∧ ty_ok (kn r) (R r)) (hk : k = 0 ∨ k = 1 ∨ k = 2) (hv : ty_ok k v) : ∀ r, r < 8 → (va_up kn j k r = 0 ∨ va_up kn j k r = 1 ∨ va_up kn j k r = 2) ∧ ty_ok (va_up kn j k r) (va_up R j v r) := fun r hr => by
  by_cases e : r = j
  · rw [e, hp_up_same, hp_up_same]
    exact ⟨hk, hv⟩
  · rw [hp_up_ne _ _ e, hp_up_ne _ _ e]
    exact h r hr
theorem ok_upR {kn : Nat → Int32} {R : Nat → Va} {j : Nat} {v : Va} (h : ∀ r, r < 8 → (kn r = 0 ∨ kn r = 1 ∨ kn r = 2) ∧ ty_ok (kn r) (R r)) (hv : ty_ok (kn j) v) : ∀ r, r < 8 → (kn r = 0 ∨ kn r = 1 ∨ kn r = 2) ∧ ty_ok (kn r) (va_up R j v r) := fun r hr => by
  by_cases e : r = j
  · rw [e, hp_up_same]
    exact ⟨(h j (e ▸ hr)).1, hv⟩
  · rw [hp_up_ne _ _ e]
    exact h r hr
theorem ty_nul9 (k : Int32) : ty_ok k v_null := ⟨Or.inr (Or.inr (Or.inr rfl)), fun q => absurd q (by decide), Or.inl rfl⟩
section OkKept
variable {a : Ab}
theorem ok_end {x : Int32} (h : a.ok) : (sp_end x a).2.2.ok := by
  unfold sp_end
  split
  next q =>
    obtain ⟨j, hj, rfl⟩ := nI_of (x := x) (Int32.not_lt.mpr q.1)
    have hjn := (nI_leI hj (by have := h.1; omega)).mp q.2
    refine ⟨?_, h.2⟩
    show (nI j).toNatClampNeg ≤ 1000
    rw [nI_clamp hj]
    have := h.1
    omega
  next => exact h
theorem ok_feed {x1 x2 x3 x4 x5 : Int32} (h : a.ok) : (sp_feed x1 x2 x3 x4 x5 a).2.2.ok := by
  unfold sp_feed
  split
  next q => exact ⟨q, h.2⟩
  next => exact h
theorem ok_clear {x1 x2 : Int32} (h : a.ok) : (sp_clear x1 x2 a).2.ok := by
  unfold sp_clear
  split
  next q =>
    refine ⟨h.1, ok_up h.2.1 ?_ (ty_nul9 _), h.2.2⟩
    obtain ⟨j, hj, rfl⟩ := nI_of (x := x2) (Int32.not_lt.mpr q.2.2.1)
    have h3 := (nI_leI (b := 2) hj (by omega)).mp q.2.2.2
    have : j = 0 ∨ j = 1 ∨ j = 2 := by omega
    rcases this with rfl | rfl | rfl
    · exact Or.inl rfl
    · exact Or.inr (Or.inl rfl)
    · exact Or.inr (Or.inr rfl)
  next => exact h
theorem ok_set {x1 : Int32} {x2 : Int64} (h : a.ok) : (sp_set x1 x2 a).2.ok := by
  unfold sp_set
  split
  next q =>
    refine ⟨h.1, ok_upR (kn := a.kn) h.2.1 ?_, h.2.2⟩
    obtain ⟨-, -, q⟩ := q
    unfold sp_fits_n at q
    rcases q with q | q
    · rw [q.1]
      exact ⟨Or.inl ⟨rfl, rfl⟩, fun _ => q.2, Or.inr rfl⟩
    · rw [q.1]
      exact ⟨Or.inr (Or.inr (Or.inl ⟨rfl, q.2, rfl⟩)), fun e => absurd e (show ¬ (2 : Int32) = 0 by decide), Or.inr rfl⟩
  next => exact h
theorem ok_keep {x1 : Int32} (h : a.ok) : (sp_keep x1 a).2.2.ok := by
  unfold sp_keep
  split
  next q =>
    split
    next => exact h
    next q2 =>
      refine ⟨h.1, ok_upR h.2.1 ⟨h.2.2.1, h.2.2.2, ?_⟩, h.2.2⟩
      by_cases e3 : a.hv.1 = 3
      · exact Or.inl e3
      · exact Or.inr (Classical.byContradiction fun e4 => q2 ⟨e3, e4⟩)
  next => exact h
theorem ok_txt {x1 : Int32} (h : a.ok) : (sp_txt x1 a).2.ok := by
  unfold sp_txt
  split
  next q =>
    obtain ⟨-, -, q3, q4, q5⟩ := q
    refine ⟨Nat.zero_le _, ok_upR (kn := a.kn) h.2.1 ?_, h.2.2⟩
    rw [q3]
    have e : (rowT a.T 0 a.n).length = a.n := by simp [rowT]
    exact ⟨Or.inr (Or.inl ⟨rfl, by show lN a.n = lN (rowT a.T 0 a.n).length; rw [e], by show (rowT a.T 0 a.n).length ≤ 40; rw [e]; exact q4, fun c hc => alb_iff.mp q5 c hc⟩), fun e9 => absurd e9 (show ¬ (1 : Int32) = 0 by decide), Or.inr rfl⟩
  next => exact ⟨Nat.zero_le _, h.2⟩
theorem ok_rd (h : a.ok) : (sp_rd a).2.2.ok := by
  unfold sp_rd
  split
  next => exact ⟨Nat.zero_le _, h.2⟩
  next => exact ⟨Nat.zero_le _, h.2⟩
theorem ok_kind (h : a.ok) : (sp_kind a).2.2.ok := by
  unfold sp_kind
  split
  next => exact h
  next =>
    split
    next => exact h
    next => exact h
theorem ok_work (h : a.ok) (hx : ∀ m, a.X = some m → EX_S m) : (sp_work a).2.2.ok := by
  unfold sp_work
  split
  next => exact h
  next m hm =>
    split
    next => exact h
    next e1 =>
      split
      next => exact h
      next e2 =>
        have hrg : rg_ok a.kn (rg a.R) := fun r hr => by
          show ty_ok (a.kn r) (if r < 8 then a.R r else v_null) ∧ _
          rw [if_pos hr]
          have h9 := h.2.1 r hr
          refine ⟨h9.2, fun q => ?_⟩
          rcases h9.1 with h9 | h9 | h9 <;> rw [h9] at q <;> exact absurd q (by decide)
        have e1' : (m.1 a.kn).1 = 0 := Classical.byContradiction e1
        have e2' : (m.2.1 (rg a.R)).1 = 0 := Classical.byContradiction e2
        have t := hx m hm a.kn (rg a.R) (m.1 a.kn).2 hrg (Prod.ext e1' rfl) e2'
        exact ⟨h.1, h.2.1, t.1, t.2.1⟩
end OkKept
theorem JI.es {z : State} {H : Hp} {ad am op sg : Nat → Nat} {aO aS mO mS : Nat} {ac ar : Ab} {bc ou c s : Nat} (h : JI z H ad am op sg aO aS mO mS ac ar bc ou c s) : ∀ m, ac.X = some m → EX_S m := fun m hm => by
  obtain ⟨wc, -, hc⟩ := h.1
  have h9 := hc.2.2.2.2.2.2.2.2.1
  rw [hm] at h9
  obtain ⟨len, c, ko0, g1, g2, g3, g4, g5, g6, g7⟩ := h9
  exact g6.2.2.2.1
