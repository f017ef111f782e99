/-! ===== the checker's steps ===== -/
/-- only the checker's own things have changed -/
def CF (w w' : Wd) : Prop := (∀ i f, ¬ (i = 18 ∧ (f = 33 ∨ f = 34 ∨ f = 35)) → w'.I i f = w.I i f) ∧ w'.J = w.J ∧ w'.A = w.A ∧ (∀ i, i ≠ 19 → w'.eI i = w.eI i) ∧ w'.eJ = w.eJ ∧ w'.eA = w.eA
theorem CF.refl (w : Wd) : CF w w := ⟨fun _ _ _ => rfl, rfl, rfl, fun _ _ => rfl, rfl, rfl⟩
theorem CF.trans {a b c : Wd} (h : CF a b) (k : CF b c) : CF a c :=
  ⟨fun i f q => (k.1 i f q).trans (h.1 i f q), k.2.1.trans h.2.1, k.2.2.1.trans h.2.2.1, fun i a1 => (k.2.2.2.1 i a1).trans (h.2.2.2.1 i a1), k.2.2.2.2.1.trans h.2.2.2.2.1, k.2.2.2.2.2.trans h.2.2.2.2.2⟩
theorem cf_33 (w : Wd) (v : Int32) : CF w (w.setI 18 33 v) := ⟨fun i f q => (up22_eq _ _ _ _ _ _).trans (if_neg (fun e => q ⟨e.1, Or.inl e.2⟩)), rfl, rfl, fun _ _ => rfl, rfl, rfl⟩
theorem cf_34 (w : Wd) (v : Int32) : CF w (w.setI 18 34 v) := ⟨fun i f q => (up22_eq _ _ _ _ _ _).trans (if_neg (fun e => q ⟨e.1, Or.inr (Or.inl e.2)⟩)), rfl, rfl, fun _ _ => rfl, rfl, rfl⟩
theorem cf_35 (w : Wd) (v : Int32) : CF w (w.setI 18 35 v) := ⟨fun i f q => (up22_eq _ _ _ _ _ _).trans (if_neg (fun e => q ⟨e.1, Or.inr (Or.inr e.2)⟩)), rfl, rfl, fun _ _ => rfl, rfl, rfl⟩
theorem cf_19 (w : Wd) (g : Nat → Int32) : CF w (w.rowI 19 g) := ⟨fun _ _ _ => rfl, rfl, rfl, fun i a => sf_ne _ _ _ a, rfl, rfl⟩
/-- the stack of kinds -/
def CS (w : Wd) (K : List Int32) (e : Int32) : Prop := w.I 18 34 = e ∧ w.I 18 33 = nI K.length ∧ ∀ j, j < K.length → w.eI 19 j = K.getD j 0
theorem CS.push {w : Wd} {K : List Int32} {e : Int32} (h : CS w K e) (x : Int32) : CS ((w.rowI 19 (va_up (w.eI 19) K.length x)).setI 18 33 (nI (K.length + 1))) (K ++ [x]) e := by
  refine ⟨h.1, ?_, fun j hj => ?_⟩
  · rw [List.length_append]; rfl
  · show va_up (w.eI 19) K.length x j = _
    rw [List.length_append] at hj
    by_cases hk : j = K.length
    · rw [hk, va_up_self]; simp [List.getD]
    · have hj' : j < K.length := by have : j < K.length + 1 := hj; omega
      rw [va_up_ne _ _ hk, h.2.2 j hj']
      simp [List.getD, List.getElem?_append, hj']
