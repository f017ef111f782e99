/-! ===== what the constructors leave (wip/tools/layi2.py) ===== -/
theorem hq_newO_tag (σ : Hp) (t n : Nat) : (σ.newO t n).tag = va_up σ.tag σ.nx t := rfl
theorem hq_newO_len (σ : Hp) (t n : Nat) : (σ.newO t n).len = σ.len := rfl
theorem hq_newO_I (σ : Hp) (t n : Nat) : (σ.newO t n).I = σ.I := rfl
theorem hq_newO_J (σ : Hp) (t n : Nat) : (σ.newO t n).J = σ.J := rfl
theorem hq_newO_A (σ : Hp) (t n : Nat) : (σ.newO t n).A = σ.A := rfl
theorem hq_newO_eI (σ : Hp) (t n : Nat) : (σ.newO t n).eI = σ.eI := rfl
theorem hq_newO_eJ (σ : Hp) (t n : Nat) : (σ.newO t n).eJ = σ.eJ := rfl
theorem hq_newO_eA (σ : Hp) (t n : Nat) : (σ.newO t n).eA = σ.eA := rfl
theorem hq_newO_nx (σ : Hp) (t n : Nat) : (σ.newO t n).nx = σ.nx + 1 := rfl
theorem hq_newO_sl (σ : Hp) (t n : Nat) : (σ.newO t n).sl = σ.sl + n := rfl
theorem hq_newA_tag (σ : Hp) (t n : Nat) : (σ.newA t n).tag = va_up σ.tag σ.nx t := rfl
theorem hq_newA_len (σ : Hp) (t n : Nat) : (σ.newA t n).len = va_up σ.len σ.nx n := rfl
theorem hq_newA_I (σ : Hp) (t n : Nat) : (σ.newA t n).I = σ.I := rfl
theorem hq_newA_J (σ : Hp) (t n : Nat) : (σ.newA t n).J = σ.J := rfl
theorem hq_newA_A (σ : Hp) (t n : Nat) : (σ.newA t n).A = σ.A := rfl
theorem hq_newA_eI (σ : Hp) (t n : Nat) : (σ.newA t n).eI = σ.eI := rfl
theorem hq_newA_eJ (σ : Hp) (t n : Nat) : (σ.newA t n).eJ = σ.eJ := rfl
theorem hq_newA_eA (σ : Hp) (t n : Nat) : (σ.newA t n).eA = σ.eA := rfl
theorem hq_newA_nx (σ : Hp) (t n : Nat) : (σ.newA t n).nx = σ.nx + 1 := rfl
theorem hq_newA_sl (σ : Hp) (t n : Nat) : (σ.newA t n).sl = σ.sl + n := rfl
theorem hq_setI_tag (σ : Hp) (f a : Nat) (v : Int32) : (σ.setI f a v).tag = σ.tag := rfl
theorem hq_setI_len (σ : Hp) (f a : Nat) (v : Int32) : (σ.setI f a v).len = σ.len := rfl
theorem hq_setI_I (σ : Hp) (f a : Nat) (v : Int32) : (σ.setI f a v).I = up2 σ.I f a v := rfl
theorem hq_setI_J (σ : Hp) (f a : Nat) (v : Int32) : (σ.setI f a v).J = σ.J := rfl
theorem hq_setI_A (σ : Hp) (f a : Nat) (v : Int32) : (σ.setI f a v).A = σ.A := rfl
theorem hq_setI_eI (σ : Hp) (f a : Nat) (v : Int32) : (σ.setI f a v).eI = σ.eI := rfl
theorem hq_setI_eJ (σ : Hp) (f a : Nat) (v : Int32) : (σ.setI f a v).eJ = σ.eJ := rfl
theorem hq_setI_eA (σ : Hp) (f a : Nat) (v : Int32) : (σ.setI f a v).eA = σ.eA := rfl
theorem hq_setI_nx (σ : Hp) (f a : Nat) (v : Int32) : (σ.setI f a v).nx = σ.nx := rfl
theorem hq_setI_sl (σ : Hp) (f a : Nat) (v : Int32) : (σ.setI f a v).sl = σ.sl := rfl
theorem hq_setJ_tag (σ : Hp) (f a : Nat) (v : Int64) : (σ.setJ f a v).tag = σ.tag := rfl
theorem hq_setJ_len (σ : Hp) (f a : Nat) (v : Int64) : (σ.setJ f a v).len = σ.len := rfl
theorem hq_setJ_I (σ : Hp) (f a : Nat) (v : Int64) : (σ.setJ f a v).I = σ.I := rfl
theorem hq_setJ_J (σ : Hp) (f a : Nat) (v : Int64) : (σ.setJ f a v).J = up2 σ.J f a v := rfl
theorem hq_setJ_A (σ : Hp) (f a : Nat) (v : Int64) : (σ.setJ f a v).A = σ.A := rfl
theorem hq_setJ_eI (σ : Hp) (f a : Nat) (v : Int64) : (σ.setJ f a v).eI = σ.eI := rfl
theorem hq_setJ_eJ (σ : Hp) (f a : Nat) (v : Int64) : (σ.setJ f a v).eJ = σ.eJ := rfl
theorem hq_setJ_eA (σ : Hp) (f a : Nat) (v : Int64) : (σ.setJ f a v).eA = σ.eA := rfl
theorem hq_setJ_nx (σ : Hp) (f a : Nat) (v : Int64) : (σ.setJ f a v).nx = σ.nx := rfl
theorem hq_setJ_sl (σ : Hp) (f a : Nat) (v : Int64) : (σ.setJ f a v).sl = σ.sl := rfl
theorem hq_setA_tag (σ : Hp) (f a : Nat) (v : Option Nat) : (σ.setA f a v).tag = σ.tag := rfl
theorem hq_setA_len (σ : Hp) (f a : Nat) (v : Option Nat) : (σ.setA f a v).len = σ.len := rfl
theorem hq_setA_I (σ : Hp) (f a : Nat) (v : Option Nat) : (σ.setA f a v).I = σ.I := rfl
theorem hq_setA_J (σ : Hp) (f a : Nat) (v : Option Nat) : (σ.setA f a v).J = σ.J := rfl
theorem hq_setA_A (σ : Hp) (f a : Nat) (v : Option Nat) : (σ.setA f a v).A = up2 σ.A f a v := rfl
theorem hq_setA_eI (σ : Hp) (f a : Nat) (v : Option Nat) : (σ.setA f a v).eI = σ.eI := rfl
theorem hq_setA_eJ (σ : Hp) (f a : Nat) (v : Option Nat) : (σ.setA f a v).eJ = σ.eJ := rfl
theorem hq_setA_eA (σ : Hp) (f a : Nat) (v : Option Nat) : (σ.setA f a v).eA = σ.eA := rfl
theorem hq_setA_nx (σ : Hp) (f a : Nat) (v : Option Nat) : (σ.setA f a v).nx = σ.nx := rfl
theorem hq_setA_sl (σ : Hp) (f a : Nat) (v : Option Nat) : (σ.setA f a v).sl = σ.sl := rfl
theorem hq_rowI_tag (σ : Hp) (a : Nat) (v : Nat → Int32) : (σ.rowI a v).tag = σ.tag := rfl
theorem hq_rowI_len (σ : Hp) (a : Nat) (v : Nat → Int32) : (σ.rowI a v).len = σ.len := rfl
theorem hq_rowI_I (σ : Hp) (a : Nat) (v : Nat → Int32) : (σ.rowI a v).I = σ.I := rfl
theorem hq_rowI_J (σ : Hp) (a : Nat) (v : Nat → Int32) : (σ.rowI a v).J = σ.J := rfl
theorem hq_rowI_A (σ : Hp) (a : Nat) (v : Nat → Int32) : (σ.rowI a v).A = σ.A := rfl
theorem hq_rowI_eI (σ : Hp) (a : Nat) (v : Nat → Int32) : (σ.rowI a v).eI = va_up σ.eI a v := rfl
theorem hq_rowI_eJ (σ : Hp) (a : Nat) (v : Nat → Int32) : (σ.rowI a v).eJ = σ.eJ := rfl
theorem hq_rowI_eA (σ : Hp) (a : Nat) (v : Nat → Int32) : (σ.rowI a v).eA = σ.eA := rfl
theorem hq_rowI_nx (σ : Hp) (a : Nat) (v : Nat → Int32) : (σ.rowI a v).nx = σ.nx := rfl
theorem hq_rowI_sl (σ : Hp) (a : Nat) (v : Nat → Int32) : (σ.rowI a v).sl = σ.sl := rfl
theorem hq_rowJ_tag (σ : Hp) (a : Nat) (v : Nat → Int64) : (σ.rowJ a v).tag = σ.tag := rfl
theorem hq_rowJ_len (σ : Hp) (a : Nat) (v : Nat → Int64) : (σ.rowJ a v).len = σ.len := rfl
theorem hq_rowJ_I (σ : Hp) (a : Nat) (v : Nat → Int64) : (σ.rowJ a v).I = σ.I := rfl
theorem hq_rowJ_J (σ : Hp) (a : Nat) (v : Nat → Int64) : (σ.rowJ a v).J = σ.J := rfl
theorem hq_rowJ_A (σ : Hp) (a : Nat) (v : Nat → Int64) : (σ.rowJ a v).A = σ.A := rfl
theorem hq_rowJ_eI (σ : Hp) (a : Nat) (v : Nat → Int64) : (σ.rowJ a v).eI = σ.eI := rfl
theorem hq_rowJ_eJ (σ : Hp) (a : Nat) (v : Nat → Int64) : (σ.rowJ a v).eJ = va_up σ.eJ a v := rfl
theorem hq_rowJ_eA (σ : Hp) (a : Nat) (v : Nat → Int64) : (σ.rowJ a v).eA = σ.eA := rfl
theorem hq_rowJ_nx (σ : Hp) (a : Nat) (v : Nat → Int64) : (σ.rowJ a v).nx = σ.nx := rfl
theorem hq_rowJ_sl (σ : Hp) (a : Nat) (v : Nat → Int64) : (σ.rowJ a v).sl = σ.sl := rfl
theorem hq_rowA_tag (σ : Hp) (a : Nat) (v : Nat → Option Nat) : (σ.rowA a v).tag = σ.tag := rfl
theorem hq_rowA_len (σ : Hp) (a : Nat) (v : Nat → Option Nat) : (σ.rowA a v).len = σ.len := rfl
theorem hq_rowA_I (σ : Hp) (a : Nat) (v : Nat → Option Nat) : (σ.rowA a v).I = σ.I := rfl
theorem hq_rowA_J (σ : Hp) (a : Nat) (v : Nat → Option Nat) : (σ.rowA a v).J = σ.J := rfl
theorem hq_rowA_A (σ : Hp) (a : Nat) (v : Nat → Option Nat) : (σ.rowA a v).A = σ.A := rfl
theorem hq_rowA_eI (σ : Hp) (a : Nat) (v : Nat → Option Nat) : (σ.rowA a v).eI = σ.eI := rfl
theorem hq_rowA_eJ (σ : Hp) (a : Nat) (v : Nat → Option Nat) : (σ.rowA a v).eJ = σ.eJ := rfl
theorem hq_rowA_eA (σ : Hp) (a : Nat) (v : Nat → Option Nat) : (σ.rowA a v).eA = va_up σ.eA a v := rfl
theorem hq_rowA_nx (σ : Hp) (a : Nat) (v : Nat → Option Nat) : (σ.rowA a v).nx = σ.nx := rfl
theorem hq_rowA_sl (σ : Hp) (a : Nat) (v : Nat → Option Nat) : (σ.rowA a v).sl = σ.sl := rfl
theorem up2_if {α : Type} (g : Nat → Nat → α) (f a : Nat) (v : α) (h b : Nat) : up2 g f a v h b = if h = f ∧ b = a then v else g h b := by
  by_cases e : h = f
  · subst e
    by_cases e2 : b = a
    · subst e2; rw [up2_same, if_pos ⟨rfl, rfl⟩]
    · rw [up2_ne _ _ e2, if_neg (fun q => e2 q.2)]
  · rw [up2_nf _ _ e, if_neg (fun q => e q.1)]
/-- beside ob nothing old has changed -/
def Kp (ob : Nat) (σ σ' : Hp) : Prop := σ.nx ≤ σ'.nx ∧ (∀ a, a < σ.nx → a ≠ ob → SameC σ σ' a) ∧ (ob < σ.nx → σ'.tag ob = σ.tag ob ∧ σ'.len ob = σ.len ob)
section Kps
variable {ob : Nat} {σ τ : Hp}
theorem Kp.rfl' (ob : Nat) (σ : Hp) : Kp ob σ σ := ⟨Nat.le_refl _, fun _ _ _ => SameC.rfl' _ _, fun _ => ⟨rfl, rfl⟩⟩
theorem Kp.setI {f : Nat} {v : Int32} (h : Kp ob σ τ) : Kp ob σ (τ.setI f ob v) := ⟨h.1, fun a ha hn => (h.2.1 a ha hn).trans (SameC.setI hn), h.2.2⟩
theorem Kp.setJ {f : Nat} {v : Int64} (h : Kp ob σ τ) : Kp ob σ (τ.setJ f ob v) := ⟨h.1, fun a ha hn => (h.2.1 a ha hn).trans (SameC.setJ hn), h.2.2⟩
theorem Kp.setA {f : Nat} {v : Option Nat} (h : Kp ob σ τ) : Kp ob σ (τ.setA f ob v) := ⟨h.1, fun a ha hn => (h.2.1 a ha hn).trans (SameC.setA hn), h.2.2⟩
theorem Kp.newO {t n : Nat} (h : Kp ob σ τ) : Kp ob σ (τ.newO t n) := ⟨Nat.le_succ_of_le h.1, fun a ha hn => (h.2.1 a ha hn).trans (SameC.newO (Nat.lt_of_lt_of_le ha h.1)), fun ho => ⟨(hp_up_ne _ _ (by have := h.1; omega)).trans (h.2.2 ho).1, (h.2.2 ho).2⟩⟩
theorem Kp.newA {t n : Nat} (h : Kp ob σ τ) : Kp ob σ (τ.newA t n) := ⟨Nat.le_succ_of_le h.1, fun a ha hn => (h.2.1 a ha hn).trans (SameC.newA (Nat.lt_of_lt_of_le ha h.1)), fun ho => ⟨(hp_up_ne _ _ (by have := h.1; omega)).trans (h.2.2 ho).1, (hp_up_ne _ _ (by have := h.1; omega)).trans (h.2.2 ho).2⟩⟩
/-- a later constructor of a new cell r -/
theorem Kp.sub {r : Nat} {τ' : Hp} (h : Kp ob σ τ) (g : Kp r τ τ') (hr : σ.nx ≤ r) (ho : ob < σ.nx) : Kp ob σ τ' := ⟨Nat.le_trans h.1 g.1, fun a ha hn => (h.2.1 a ha hn).trans (g.2.1 a (Nat.lt_of_lt_of_le ha h.1) (by omega)), fun q => by
  have s := g.2.1 ob (Nat.lt_of_lt_of_le ho h.1) (by omega)
  exact ⟨s.1.trans (h.2.2 q).1, s.2.1.trans (h.2.2 q).2⟩⟩
/-- rows of a new cell have changed -/
theorem Kp.row {r : Nat} {τ' : Hp} (h : Kp ob σ τ) (hr : σ.nx ≤ r) (ho : ob < σ.nx) (f : ∀ a, a ≠ r → SameC τ τ' a) (hn : τ'.nx = τ.nx) : Kp ob σ τ' := ⟨by rw [hn]; exact h.1, fun a ha hne => (h.2.1 a ha hne).trans (f a (by omega)), fun q => by
  have s := f ob (by omega)
  exact ⟨s.1.trans (h.2.2 q).1, s.2.1.trans (h.2.2 q).2⟩⟩
end Kps
section Ctors
variable {z : State} {l : Launch} {d : Nat} {σ : Hp} {Q : Outcome → Hp → Prop} {op sg : Nat → Nat} {aO aS mO mS ob x1 x2 : Nat}
theorem ki_S (hs : gj_St z op sg aO aS mO mS) (t : σ.tag ob = 4) (hz : z.heap.size ≤ ob) (k : ∀ σ', Kp ob σ σ' → σ'.nx = σ.nx → σ'.sl = σ.sl → σ'.A 20 ob = some x1 → Q (.returned none) σ') : Go z l mt_S_init (d + 9) 0 [.ref ob, .ref x1] [] σ Q :=
  ct_S_init hs t hz (k _ (Kp.rfl' ob σ).setI.setI.setA.setI.setI.setJ.setA rfl rfl (by simp [hq_newO_tag, hq_newO_len, hq_newO_I, hq_newO_J, hq_newO_A, hq_newO_eI, hq_newO_eJ, hq_newO_eA, hq_newO_nx, hq_newO_sl, hq_newA_tag, hq_newA_len, hq_newA_I, hq_newA_J, hq_newA_A, hq_newA_eI, hq_newA_eJ, hq_newA_eA, hq_newA_nx, hq_newA_sl, hq_setI_tag, hq_setI_len, hq_setI_I, hq_setI_J, hq_setI_A, hq_setI_eI, hq_setI_eJ, hq_setI_eA, hq_setI_nx, hq_setI_sl, hq_setJ_tag, hq_setJ_len, hq_setJ_I, hq_setJ_J, hq_setJ_A, hq_setJ_eI, hq_setJ_eJ, hq_setJ_eA, hq_setJ_nx, hq_setJ_sl, hq_setA_tag, hq_setA_len, hq_setA_I, hq_setA_J, hq_setA_A, hq_setA_eI, hq_setA_eJ, hq_setA_eA, hq_setA_nx, hq_setA_sl, hq_rowI_tag, hq_rowI_len, hq_rowI_I, hq_rowI_J, hq_rowI_A, hq_rowI_eI, hq_rowI_eJ, hq_rowI_eA, hq_rowI_nx, hq_rowI_sl, hq_rowJ_tag, hq_rowJ_len, hq_rowJ_I, hq_rowJ_J, hq_rowJ_A, hq_rowJ_eI, hq_rowJ_eJ, hq_rowJ_eA, hq_rowJ_nx, hq_rowJ_sl, hq_rowA_tag, hq_rowA_len, hq_rowA_I, hq_rowA_J, hq_rowA_A, hq_rowA_eI, hq_rowA_eJ, hq_rowA_eA, hq_rowA_nx, hq_rowA_sl, va_up, up2_if, Nat.add_assoc]))
theorem ki_K (t : σ.tag ob = 7) (hz : z.heap.size ≤ ob) (k : ∀ σ', Kp ob σ σ' → σ'.nx = σ.nx → σ'.sl = σ.sl → σ'.A 36 ob = some x1 → Q (.returned none) σ') : Go z l mt_K_init (d + 9) 0 [.ref ob, .ref x1] [] σ Q :=
  ct_K_init t hz (k _ (Kp.rfl' ob σ).setI.setI.setA rfl rfl (by simp [hq_newO_tag, hq_newO_len, hq_newO_I, hq_newO_J, hq_newO_A, hq_newO_eI, hq_newO_eJ, hq_newO_eA, hq_newO_nx, hq_newO_sl, hq_newA_tag, hq_newA_len, hq_newA_I, hq_newA_J, hq_newA_A, hq_newA_eI, hq_newA_eJ, hq_newA_eA, hq_newA_nx, hq_newA_sl, hq_setI_tag, hq_setI_len, hq_setI_I, hq_setI_J, hq_setI_A, hq_setI_eI, hq_setI_eJ, hq_setI_eA, hq_setI_nx, hq_setI_sl, hq_setJ_tag, hq_setJ_len, hq_setJ_I, hq_setJ_J, hq_setJ_A, hq_setJ_eI, hq_setJ_eJ, hq_setJ_eA, hq_setJ_nx, hq_setJ_sl, hq_setA_tag, hq_setA_len, hq_setA_I, hq_setA_J, hq_setA_A, hq_setA_eI, hq_setA_eJ, hq_setA_eA, hq_setA_nx, hq_setA_sl, hq_rowI_tag, hq_rowI_len, hq_rowI_I, hq_rowI_J, hq_rowI_A, hq_rowI_eI, hq_rowI_eJ, hq_rowI_eA, hq_rowI_nx, hq_rowI_sl, hq_rowJ_tag, hq_rowJ_len, hq_rowJ_I, hq_rowJ_J, hq_rowJ_A, hq_rowJ_eI, hq_rowJ_eJ, hq_rowJ_eA, hq_rowJ_nx, hq_rowJ_sl, hq_rowA_tag, hq_rowA_len, hq_rowA_I, hq_rowA_J, hq_rowA_A, hq_rowA_eI, hq_rowA_eJ, hq_rowA_eA, hq_rowA_nx, hq_rowA_sl, va_up, up2_if, Nat.add_assoc]))
theorem ki_C (t : σ.tag ob = 6) (hz : z.heap.size ≤ ob) (k : ∀ σ', Kp ob σ σ' → σ'.nx = σ.nx + 1 → σ'.sl = σ.sl + 1000 → σ'.A 32 ob = some σ.nx → σ'.tag σ.nx = 22 ∧ σ'.len σ.nx = 1000 → Q (.returned none) σ') : Go z l mt_C_init (d + 9) 0 [.ref ob] [] σ Q := by
  refine ct_C_init t hz (k _ (Kp.rfl' ob σ).newA.setA.setI.setI.setI rfl rfl ?_ ⟨?_, ?_⟩) <;> simp [hq_newO_tag, hq_newO_len, hq_newO_I, hq_newO_J, hq_newO_A, hq_newO_eI, hq_newO_eJ, hq_newO_eA, hq_newO_nx, hq_newO_sl, hq_newA_tag, hq_newA_len, hq_newA_I, hq_newA_J, hq_newA_A, hq_newA_eI, hq_newA_eJ, hq_newA_eA, hq_newA_nx, hq_newA_sl, hq_setI_tag, hq_setI_len, hq_setI_I, hq_setI_J, hq_setI_A, hq_setI_eI, hq_setI_eJ, hq_setI_eA, hq_setI_nx, hq_setI_sl, hq_setJ_tag, hq_setJ_len, hq_setJ_I, hq_setJ_J, hq_setJ_A, hq_setJ_eI, hq_setJ_eJ, hq_setJ_eA, hq_setJ_nx, hq_setJ_sl, hq_setA_tag, hq_setA_len, hq_setA_I, hq_setA_J, hq_setA_A, hq_setA_eI, hq_setA_eJ, hq_setA_eA, hq_setA_nx, hq_setA_sl, hq_rowI_tag, hq_rowI_len, hq_rowI_I, hq_rowI_J, hq_rowI_A, hq_rowI_eI, hq_rowI_eJ, hq_rowI_eA, hq_rowI_nx, hq_rowI_sl, hq_rowJ_tag, hq_rowJ_len, hq_rowJ_I, hq_rowJ_J, hq_rowJ_A, hq_rowJ_eI, hq_rowJ_eJ, hq_rowJ_eA, hq_rowJ_nx, hq_rowJ_sl, hq_rowA_tag, hq_rowA_len, hq_rowA_I, hq_rowA_J, hq_rowA_A, hq_rowA_eI, hq_rowA_eJ, hq_rowA_eA, hq_rowA_nx, hq_rowA_sl, va_up, up2_if, Nat.add_assoc]
theorem ki_V (t : σ.tag ob = 10) (hz : z.heap.size ≤ ob) (k : ∀ σ', Kp ob σ σ' → σ'.nx = σ.nx + 1 → σ'.sl = σ.sl + 40 → σ'.A 73 ob = some σ.nx → σ'.tag σ.nx = 21 ∧ σ'.len σ.nx = 40 → σ'.I = σ.I → σ'.J = σ.J → σ'.eI = σ.eI → Q (.returned none) σ') : Go z l mt_V_init (d + 9) 0 [.ref ob] [] σ Q := by
  refine ct_V_init t hz (k _ (Kp.rfl' ob σ).newA.setA rfl rfl ?_ ⟨?_, ?_⟩ rfl rfl rfl) <;> simp [hq_newO_tag, hq_newO_len, hq_newO_I, hq_newO_J, hq_newO_A, hq_newO_eI, hq_newO_eJ, hq_newO_eA, hq_newO_nx, hq_newO_sl, hq_newA_tag, hq_newA_len, hq_newA_I, hq_newA_J, hq_newA_A, hq_newA_eI, hq_newA_eJ, hq_newA_eA, hq_newA_nx, hq_newA_sl, hq_setI_tag, hq_setI_len, hq_setI_I, hq_setI_J, hq_setI_A, hq_setI_eI, hq_setI_eJ, hq_setI_eA, hq_setI_nx, hq_setI_sl, hq_setJ_tag, hq_setJ_len, hq_setJ_I, hq_setJ_J, hq_setJ_A, hq_setJ_eI, hq_setJ_eJ, hq_setJ_eA, hq_setJ_nx, hq_setJ_sl, hq_setA_tag, hq_setA_len, hq_setA_I, hq_setA_J, hq_setA_A, hq_setA_eI, hq_setA_eJ, hq_setA_eA, hq_setA_nx, hq_setA_sl, hq_rowI_tag, hq_rowI_len, hq_rowI_I, hq_rowI_J, hq_rowI_A, hq_rowI_eI, hq_rowI_eJ, hq_rowI_eA, hq_rowI_nx, hq_rowI_sl, hq_rowJ_tag, hq_rowJ_len, hq_rowJ_I, hq_rowJ_J, hq_rowJ_A, hq_rowJ_eI, hq_rowJ_eJ, hq_rowJ_eA, hq_rowJ_nx, hq_rowJ_sl, hq_rowA_tag, hq_rowA_len, hq_rowA_I, hq_rowA_J, hq_rowA_A, hq_rowA_eI, hq_rowA_eJ, hq_rowA_eA, hq_rowA_nx, hq_rowA_sl, va_up, up2_if, Nat.add_assoc]
/-- Slots: its loop -/
theorem ki_L_41 {b : Nat} (hob : ob ≠ b) : ∀ (n i : Nat) (σ : Hp), i + n = 251 → σ.tag ob = 2 → σ.A 11 ob = some b → σ.tag b = 22 → σ.len b = 251 → z.heap.size ≤ b → (∀ j, j < i → σ.eI b j = 3) → (∀ σ' : Hp, (∀ a, a ≠ b → SameC σ σ' a) → σ'.tag = σ.tag → σ'.len = σ.len → σ'.nx = σ.nx → σ'.sl = σ.sl → (∀ j, j < 251 → σ'.eI b j = 3) → Q (.returned none) σ') → Go z l mt_L_init (d + 9) 41 [.ref ob, .int (nI i)] [] σ Q := by
  intro n
  induction n with
  | zero =>
    intro i σ hi t1 a3 t4 l4 z5 hj k
    obtain rfl : i = 251 := by omega
    refine ct_L_init_41 t1 a3 t4 z5 (fun _ => k σ (fun a _ => SameC.rfl' _ _) rfl rfl rfl rfl hj) (fun q => ?_) (fun q => ?_)
    · exact absurd ((nI_leI (by omega) (by omega)).mpr (by omega)) q
    · exact absurd ((nI_leI (by omega) (by omega)).mpr (by omega)) q
  | succ n ih =>
    intro i σ hi t1 a3 t4 l4 z5 hj k
    refine ct_L_init_41 t1 a3 t4 z5 (fun q => ?_) (fun _ => ?_) (fun _ => ?_)
    · rw [l4] at q
      have := (nI_leI (by omega) (by omega)).mp q
      omega
    · rw [l4]; exact vp_in_nI (by omega) (by omega)
    · rw [show nI i + 1 = nI (i + 1) from nI_add i 1, nI_clamp (by omega)]
      refine ih (i + 1) _ (by omega) t1 a3 t4 l4 z5 (fun j h9 => ?_) (fun σ' f e1 e2 e3 e4 h9 => k σ' (fun a ha => (SameC.rowI ha).trans (f a ha)) e1 e2 e3 e4 h9)
      show va_up σ.eI b (va_up (σ.eI b) i 3) b j = 3
      rw [hp_up_same]
      by_cases e : j = i
      · rw [e, hp_up_same]
      · rw [hp_up_ne _ _ e]; exact hj j (by omega)
theorem ki_L (t : σ.tag ob = 2) (hz : z.heap.size ≤ ob) (k : ∀ σ', Kp ob σ σ' → σ'.nx = σ.nx + 4 → σ'.sl = σ.sl + 10583 → (σ'.A 11 ob = some σ.nx ∧ σ'.A 12 ob = some (σ.nx + 1) ∧ σ'.A 13 ob = some (σ.nx + 2) ∧ σ'.A 14 ob = some (σ.nx + 3)) → (σ'.tag σ.nx = 22 ∧ σ'.tag (σ.nx + 1) = 23 ∧ σ'.tag (σ.nx + 2) = 21 ∧ σ'.tag (σ.nx + 3) = 24) → (σ'.len σ.nx = 251 ∧ σ'.len (σ.nx + 1) = 251 ∧ σ'.len (σ.nx + 2) = 10040 ∧ σ'.len (σ.nx + 3) = 41) → (∀ j, j < 251 → σ'.eI σ.nx j = 3) → (∀ j, σ'.eJ (σ.nx + 1) j = 0) → Q (.returned none) σ') : Go z l mt_L_init (d + 9) 0 [.ref ob, .retAddr 0] [] σ Q := by
  refine go_wf fun hw => ?_
  have ho : ob < σ.nx := hw.lt (by rw [t]; decide)
  have bl := hw.1 (σ.nx + 1) (by omega)
  refine ct_L_init t hz ?_
  obtain ⟨X, hX⟩ : ∃ X : Hp, X = ((((((((σ.newA 22 251).setA 11 ob (some σ.nx)).newA 23 251).setA 12 ob (some (σ.nx + 1))).newA 21 10040).setA 13 ob (some (σ.nx + 2))).newA 24 41).setA 14 ob (some (σ.nx + 3))) := ⟨_, rfl⟩
  have kX : Kp ob σ X := by rw [hX]; exact (Kp.rfl' ob σ).newA.setA.newA.setA.newA.setA.newA.setA
  have eA : X.A 11 ob = some σ.nx ∧ X.A 12 ob = some (σ.nx + 1) ∧ X.A 13 ob = some (σ.nx + 2) ∧ X.A 14 ob = some (σ.nx + 3) := by rw [hX]; simp [hq_newO_tag, hq_newO_len, hq_newO_I, hq_newO_J, hq_newO_A, hq_newO_eI, hq_newO_eJ, hq_newO_eA, hq_newO_nx, hq_newO_sl, hq_newA_tag, hq_newA_len, hq_newA_I, hq_newA_J, hq_newA_A, hq_newA_eI, hq_newA_eJ, hq_newA_eA, hq_newA_nx, hq_newA_sl, hq_setI_tag, hq_setI_len, hq_setI_I, hq_setI_J, hq_setI_A, hq_setI_eI, hq_setI_eJ, hq_setI_eA, hq_setI_nx, hq_setI_sl, hq_setJ_tag, hq_setJ_len, hq_setJ_I, hq_setJ_J, hq_setJ_A, hq_setJ_eI, hq_setJ_eJ, hq_setJ_eA, hq_setJ_nx, hq_setJ_sl, hq_setA_tag, hq_setA_len, hq_setA_I, hq_setA_J, hq_setA_A, hq_setA_eI, hq_setA_eJ, hq_setA_eA, hq_setA_nx, hq_setA_sl, hq_rowI_tag, hq_rowI_len, hq_rowI_I, hq_rowI_J, hq_rowI_A, hq_rowI_eI, hq_rowI_eJ, hq_rowI_eA, hq_rowI_nx, hq_rowI_sl, hq_rowJ_tag, hq_rowJ_len, hq_rowJ_I, hq_rowJ_J, hq_rowJ_A, hq_rowJ_eI, hq_rowJ_eJ, hq_rowJ_eA, hq_rowJ_nx, hq_rowJ_sl, hq_rowA_tag, hq_rowA_len, hq_rowA_I, hq_rowA_J, hq_rowA_A, hq_rowA_eI, hq_rowA_eJ, hq_rowA_eA, hq_rowA_nx, hq_rowA_sl, va_up, up2_if, Nat.add_assoc]
  have eT : X.tag σ.nx = 22 ∧ X.tag (σ.nx + 1) = 23 ∧ X.tag (σ.nx + 2) = 21 ∧ X.tag (σ.nx + 3) = 24 := by rw [hX]; simp [hq_newO_tag, hq_newO_len, hq_newO_I, hq_newO_J, hq_newO_A, hq_newO_eI, hq_newO_eJ, hq_newO_eA, hq_newO_nx, hq_newO_sl, hq_newA_tag, hq_newA_len, hq_newA_I, hq_newA_J, hq_newA_A, hq_newA_eI, hq_newA_eJ, hq_newA_eA, hq_newA_nx, hq_newA_sl, hq_setI_tag, hq_setI_len, hq_setI_I, hq_setI_J, hq_setI_A, hq_setI_eI, hq_setI_eJ, hq_setI_eA, hq_setI_nx, hq_setI_sl, hq_setJ_tag, hq_setJ_len, hq_setJ_I, hq_setJ_J, hq_setJ_A, hq_setJ_eI, hq_setJ_eJ, hq_setJ_eA, hq_setJ_nx, hq_setJ_sl, hq_setA_tag, hq_setA_len, hq_setA_I, hq_setA_J, hq_setA_A, hq_setA_eI, hq_setA_eJ, hq_setA_eA, hq_setA_nx, hq_setA_sl, hq_rowI_tag, hq_rowI_len, hq_rowI_I, hq_rowI_J, hq_rowI_A, hq_rowI_eI, hq_rowI_eJ, hq_rowI_eA, hq_rowI_nx, hq_rowI_sl, hq_rowJ_tag, hq_rowJ_len, hq_rowJ_I, hq_rowJ_J, hq_rowJ_A, hq_rowJ_eI, hq_rowJ_eJ, hq_rowJ_eA, hq_rowJ_nx, hq_rowJ_sl, hq_rowA_tag, hq_rowA_len, hq_rowA_I, hq_rowA_J, hq_rowA_A, hq_rowA_eI, hq_rowA_eJ, hq_rowA_eA, hq_rowA_nx, hq_rowA_sl, va_up, up2_if, Nat.add_assoc]
  have eL : X.len σ.nx = 251 ∧ X.len (σ.nx + 1) = 251 ∧ X.len (σ.nx + 2) = 10040 ∧ X.len (σ.nx + 3) = 41 := by rw [hX]; simp [hq_newO_tag, hq_newO_len, hq_newO_I, hq_newO_J, hq_newO_A, hq_newO_eI, hq_newO_eJ, hq_newO_eA, hq_newO_nx, hq_newO_sl, hq_newA_tag, hq_newA_len, hq_newA_I, hq_newA_J, hq_newA_A, hq_newA_eI, hq_newA_eJ, hq_newA_eA, hq_newA_nx, hq_newA_sl, hq_setI_tag, hq_setI_len, hq_setI_I, hq_setI_J, hq_setI_A, hq_setI_eI, hq_setI_eJ, hq_setI_eA, hq_setI_nx, hq_setI_sl, hq_setJ_tag, hq_setJ_len, hq_setJ_I, hq_setJ_J, hq_setJ_A, hq_setJ_eI, hq_setJ_eJ, hq_setJ_eA, hq_setJ_nx, hq_setJ_sl, hq_setA_tag, hq_setA_len, hq_setA_I, hq_setA_J, hq_setA_A, hq_setA_eI, hq_setA_eJ, hq_setA_eA, hq_setA_nx, hq_setA_sl, hq_rowI_tag, hq_rowI_len, hq_rowI_I, hq_rowI_J, hq_rowI_A, hq_rowI_eI, hq_rowI_eJ, hq_rowI_eA, hq_rowI_nx, hq_rowI_sl, hq_rowJ_tag, hq_rowJ_len, hq_rowJ_I, hq_rowJ_J, hq_rowJ_A, hq_rowJ_eI, hq_rowJ_eJ, hq_rowJ_eA, hq_rowJ_nx, hq_rowJ_sl, hq_rowA_tag, hq_rowA_len, hq_rowA_I, hq_rowA_J, hq_rowA_A, hq_rowA_eI, hq_rowA_eJ, hq_rowA_eA, hq_rowA_nx, hq_rowA_sl, va_up, up2_if, Nat.add_assoc]
  have eN : X.nx = σ.nx + 4 ∧ X.sl = σ.sl + 10583 := by rw [hX]; simp [hq_newO_tag, hq_newO_len, hq_newO_I, hq_newO_J, hq_newO_A, hq_newO_eI, hq_newO_eJ, hq_newO_eA, hq_newO_nx, hq_newO_sl, hq_newA_tag, hq_newA_len, hq_newA_I, hq_newA_J, hq_newA_A, hq_newA_eI, hq_newA_eJ, hq_newA_eA, hq_newA_nx, hq_newA_sl, hq_setI_tag, hq_setI_len, hq_setI_I, hq_setI_J, hq_setI_A, hq_setI_eI, hq_setI_eJ, hq_setI_eA, hq_setI_nx, hq_setI_sl, hq_setJ_tag, hq_setJ_len, hq_setJ_I, hq_setJ_J, hq_setJ_A, hq_setJ_eI, hq_setJ_eJ, hq_setJ_eA, hq_setJ_nx, hq_setJ_sl, hq_setA_tag, hq_setA_len, hq_setA_I, hq_setA_J, hq_setA_A, hq_setA_eI, hq_setA_eJ, hq_setA_eA, hq_setA_nx, hq_setA_sl, hq_rowI_tag, hq_rowI_len, hq_rowI_I, hq_rowI_J, hq_rowI_A, hq_rowI_eI, hq_rowI_eJ, hq_rowI_eA, hq_rowI_nx, hq_rowI_sl, hq_rowJ_tag, hq_rowJ_len, hq_rowJ_I, hq_rowJ_J, hq_rowJ_A, hq_rowJ_eI, hq_rowJ_eJ, hq_rowJ_eA, hq_rowJ_nx, hq_rowJ_sl, hq_rowA_tag, hq_rowA_len, hq_rowA_I, hq_rowA_J, hq_rowA_A, hq_rowA_eI, hq_rowA_eJ, hq_rowA_eA, hq_rowA_nx, hq_rowA_sl, va_up, up2_if, Nat.add_assoc]
  have eJ : ∀ j, X.eJ (σ.nx + 1) j = 0 := fun j => by rw [hX]; exact (bl.2.2.2 j).2.1
  show Go z l mt_L_init (d + 9) 41 [.ref ob, .int (nI 0)] [] ((((((((σ.newA 22 251).setA 11 ob (some σ.nx)).newA 23 251).setA 12 ob (some (σ.nx + 1))).newA 21 10040).setA 13 ob (some (σ.nx + 2))).newA 24 41).setA 14 ob (some (σ.nx + 3))) Q
  rw [← hX]
  refine ki_L_41 (b := σ.nx) (by omega) 251 0 X rfl ((kX.2.2 ho).1.trans t) eA.1 eT.1 eL.1 (by omega) (fun j h9 => absurd h9 (Nat.not_lt_zero _)) (fun σ' f e1 e2 e3 e4 h9 => ?_)
  have fo := f ob (by omega)
  refine k σ' (kX.row (r := σ.nx) (Nat.le_refl _) ho f e3) (e3.trans eN.1) (e4.trans eN.2) ⟨((fo.2.2.1 11).2.2).trans eA.1, ((fo.2.2.1 12).2.2).trans eA.2.1, ((fo.2.2.1 13).2.2).trans eA.2.2.1, ((fo.2.2.1 14).2.2).trans eA.2.2.2⟩ (by rw [e1]; exact eT) (by rw [e2]; exact eL) h9 (fun j => ?_)
  rw [(f (σ.nx + 1) (by omega)).2.2.2.2.1]
  exact eJ j
/-- Program: its loop -/
theorem ki_G_44 {b : Nat} (hs : gj_St z op sg aO aS mO mS) (hob : ob ≠ b) : ∀ (n i : Nat) (σ : Hp), i + n = 1000 → σ.tag ob = 3 → σ.A 15 ob = some b → σ.tag b = 25 → σ.len b = 1000 → σ.tag (op 0) = 20 → z.heap.size ≤ b → (∀ j, j < i → σ.eA b j = some (op 0)) → (∀ σ' : Hp, (∀ a, a ≠ b → SameC σ σ' a) → σ'.tag = σ.tag → σ'.len = σ.len → σ'.nx = σ.nx → σ'.sl = σ.sl → (∀ j, j < 1000 → σ'.eA b j = some (op 0)) → Q (.returned none) σ') → Go z l mt_G_init (d + 9) 44 [.ref ob, .int (nI i)] [] σ Q := by
  intro n
  induction n with
  | zero =>
    intro i σ hi t1 a3 t4 l4 t5 z5 hj k
    obtain rfl : i = 1000 := by omega
    refine ct_G_init_44 hs t1 a3 t4 t5 z5 (fun _ => k σ (fun a _ => SameC.rfl' _ _) rfl rfl rfl rfl hj) (fun q => ?_) (fun q => ?_)
    · exact absurd ((nI_leI (by omega) (by omega)).mpr (by omega)) q
    · exact absurd ((nI_leI (by omega) (by omega)).mpr (by omega)) q
  | succ n ih =>
    intro i σ hi t1 a3 t4 l4 t5 z5 hj k
    refine ct_G_init_44 hs t1 a3 t4 t5 z5 (fun q => ?_) (fun _ => ?_) (fun _ => ?_)
    · rw [l4] at q
      have := (nI_leI (by omega) (by omega)).mp q
      omega
    · rw [l4]; exact vp_in_nI (by omega) (by omega)
    · rw [show nI i + 1 = nI (i + 1) from nI_add i 1, nI_clamp (by omega)]
      refine ih (i + 1) _ (by omega) t1 a3 t4 l4 t5 z5 (fun j h9 => ?_) (fun σ' f e1 e2 e3 e4 h9 => k σ' (fun a ha => (SameC.rowA ha).trans (f a ha)) e1 e2 e3 e4 h9)
      show va_up σ.eA b (va_up (σ.eA b) i (some (op 0))) b j = some (op 0)
      rw [hp_up_same]
      by_cases e : j = i
      · rw [e, hp_up_same]
      · rw [hp_up_ne _ _ e]; exact hj j (by omega)
theorem ki_G (hs : gj_St z op sg aO aS mO mS) (t : σ.tag ob = 3) (hz : z.heap.size ≤ ob) (top : σ.tag (op 0) = 20) (k : ∀ σ', Kp ob σ σ' → σ'.nx = σ.nx + 3 → σ'.sl = σ.sl + 3000 → (σ'.A 15 ob = some σ.nx ∧ σ'.A 16 ob = some (σ.nx + 1) ∧ σ'.A 17 ob = some (σ.nx + 2)) → (σ'.tag σ.nx = 25 ∧ σ'.tag (σ.nx + 1) = 23 ∧ σ'.tag (σ.nx + 2) = 21) → (σ'.len σ.nx = 1000 ∧ σ'.len (σ.nx + 1) = 1000 ∧ σ'.len (σ.nx + 2) = 1000) → σ'.I 19 ob = 0 → (∀ j, j < 1000 → σ'.eA σ.nx j = some (op 0)) → Q (.returned none) σ') : Go z l mt_G_init (d + 9) 0 [.ref ob, .retAddr 0] [] σ Q := by
  refine go_wf fun hw => ?_
  have ho : ob < σ.nx := hw.lt (by rw [t]; decide)
  have hop : op 0 < σ.nx := hw.lt (by rw [top]; decide)
  refine ct_G_init t hz ?_
  obtain ⟨X, hX⟩ : ∃ X : Hp, X = ((((((((σ.newA 25 1000).setA 15 ob (some σ.nx)).newA 23 1000).setA 16 ob (some (σ.nx + 1))).newA 21 1000).setA 17 ob (some (σ.nx + 2))).setI 18 ob 0).setI 19 ob 0) := ⟨_, rfl⟩
  have kX : Kp ob σ X := by rw [hX]; exact (Kp.rfl' ob σ).newA.setA.newA.setA.newA.setA.setI.setI
  have eA : X.A 15 ob = some σ.nx ∧ X.A 16 ob = some (σ.nx + 1) ∧ X.A 17 ob = some (σ.nx + 2) := by rw [hX]; simp [hq_newO_tag, hq_newO_len, hq_newO_I, hq_newO_J, hq_newO_A, hq_newO_eI, hq_newO_eJ, hq_newO_eA, hq_newO_nx, hq_newO_sl, hq_newA_tag, hq_newA_len, hq_newA_I, hq_newA_J, hq_newA_A, hq_newA_eI, hq_newA_eJ, hq_newA_eA, hq_newA_nx, hq_newA_sl, hq_setI_tag, hq_setI_len, hq_setI_I, hq_setI_J, hq_setI_A, hq_setI_eI, hq_setI_eJ, hq_setI_eA, hq_setI_nx, hq_setI_sl, hq_setJ_tag, hq_setJ_len, hq_setJ_I, hq_setJ_J, hq_setJ_A, hq_setJ_eI, hq_setJ_eJ, hq_setJ_eA, hq_setJ_nx, hq_setJ_sl, hq_setA_tag, hq_setA_len, hq_setA_I, hq_setA_J, hq_setA_A, hq_setA_eI, hq_setA_eJ, hq_setA_eA, hq_setA_nx, hq_setA_sl, hq_rowI_tag, hq_rowI_len, hq_rowI_I, hq_rowI_J, hq_rowI_A, hq_rowI_eI, hq_rowI_eJ, hq_rowI_eA, hq_rowI_nx, hq_rowI_sl, hq_rowJ_tag, hq_rowJ_len, hq_rowJ_I, hq_rowJ_J, hq_rowJ_A, hq_rowJ_eI, hq_rowJ_eJ, hq_rowJ_eA, hq_rowJ_nx, hq_rowJ_sl, hq_rowA_tag, hq_rowA_len, hq_rowA_I, hq_rowA_J, hq_rowA_A, hq_rowA_eI, hq_rowA_eJ, hq_rowA_eA, hq_rowA_nx, hq_rowA_sl, va_up, up2_if, Nat.add_assoc]
  have eT : X.tag σ.nx = 25 ∧ X.tag (σ.nx + 1) = 23 ∧ X.tag (σ.nx + 2) = 21 := by rw [hX]; simp [hq_newO_tag, hq_newO_len, hq_newO_I, hq_newO_J, hq_newO_A, hq_newO_eI, hq_newO_eJ, hq_newO_eA, hq_newO_nx, hq_newO_sl, hq_newA_tag, hq_newA_len, hq_newA_I, hq_newA_J, hq_newA_A, hq_newA_eI, hq_newA_eJ, hq_newA_eA, hq_newA_nx, hq_newA_sl, hq_setI_tag, hq_setI_len, hq_setI_I, hq_setI_J, hq_setI_A, hq_setI_eI, hq_setI_eJ, hq_setI_eA, hq_setI_nx, hq_setI_sl, hq_setJ_tag, hq_setJ_len, hq_setJ_I, hq_setJ_J, hq_setJ_A, hq_setJ_eI, hq_setJ_eJ, hq_setJ_eA, hq_setJ_nx, hq_setJ_sl, hq_setA_tag, hq_setA_len, hq_setA_I, hq_setA_J, hq_setA_A, hq_setA_eI, hq_setA_eJ, hq_setA_eA, hq_setA_nx, hq_setA_sl, hq_rowI_tag, hq_rowI_len, hq_rowI_I, hq_rowI_J, hq_rowI_A, hq_rowI_eI, hq_rowI_eJ, hq_rowI_eA, hq_rowI_nx, hq_rowI_sl, hq_rowJ_tag, hq_rowJ_len, hq_rowJ_I, hq_rowJ_J, hq_rowJ_A, hq_rowJ_eI, hq_rowJ_eJ, hq_rowJ_eA, hq_rowJ_nx, hq_rowJ_sl, hq_rowA_tag, hq_rowA_len, hq_rowA_I, hq_rowA_J, hq_rowA_A, hq_rowA_eI, hq_rowA_eJ, hq_rowA_eA, hq_rowA_nx, hq_rowA_sl, va_up, up2_if, Nat.add_assoc]
  have eL : X.len σ.nx = 1000 ∧ X.len (σ.nx + 1) = 1000 ∧ X.len (σ.nx + 2) = 1000 := by rw [hX]; simp [hq_newO_tag, hq_newO_len, hq_newO_I, hq_newO_J, hq_newO_A, hq_newO_eI, hq_newO_eJ, hq_newO_eA, hq_newO_nx, hq_newO_sl, hq_newA_tag, hq_newA_len, hq_newA_I, hq_newA_J, hq_newA_A, hq_newA_eI, hq_newA_eJ, hq_newA_eA, hq_newA_nx, hq_newA_sl, hq_setI_tag, hq_setI_len, hq_setI_I, hq_setI_J, hq_setI_A, hq_setI_eI, hq_setI_eJ, hq_setI_eA, hq_setI_nx, hq_setI_sl, hq_setJ_tag, hq_setJ_len, hq_setJ_I, hq_setJ_J, hq_setJ_A, hq_setJ_eI, hq_setJ_eJ, hq_setJ_eA, hq_setJ_nx, hq_setJ_sl, hq_setA_tag, hq_setA_len, hq_setA_I, hq_setA_J, hq_setA_A, hq_setA_eI, hq_setA_eJ, hq_setA_eA, hq_setA_nx, hq_setA_sl, hq_rowI_tag, hq_rowI_len, hq_rowI_I, hq_rowI_J, hq_rowI_A, hq_rowI_eI, hq_rowI_eJ, hq_rowI_eA, hq_rowI_nx, hq_rowI_sl, hq_rowJ_tag, hq_rowJ_len, hq_rowJ_I, hq_rowJ_J, hq_rowJ_A, hq_rowJ_eI, hq_rowJ_eJ, hq_rowJ_eA, hq_rowJ_nx, hq_rowJ_sl, hq_rowA_tag, hq_rowA_len, hq_rowA_I, hq_rowA_J, hq_rowA_A, hq_rowA_eI, hq_rowA_eJ, hq_rowA_eA, hq_rowA_nx, hq_rowA_sl, va_up, up2_if, Nat.add_assoc]
  have eN : X.nx = σ.nx + 3 ∧ X.sl = σ.sl + 3000 := by rw [hX]; exact ⟨rfl, by show σ.sl + 1000 + 1000 + 1000 = _; omega⟩
  have eI : X.I 19 ob = 0 := by rw [hX]; simp [hq_newO_tag, hq_newO_len, hq_newO_I, hq_newO_J, hq_newO_A, hq_newO_eI, hq_newO_eJ, hq_newO_eA, hq_newO_nx, hq_newO_sl, hq_newA_tag, hq_newA_len, hq_newA_I, hq_newA_J, hq_newA_A, hq_newA_eI, hq_newA_eJ, hq_newA_eA, hq_newA_nx, hq_newA_sl, hq_setI_tag, hq_setI_len, hq_setI_I, hq_setI_J, hq_setI_A, hq_setI_eI, hq_setI_eJ, hq_setI_eA, hq_setI_nx, hq_setI_sl, hq_setJ_tag, hq_setJ_len, hq_setJ_I, hq_setJ_J, hq_setJ_A, hq_setJ_eI, hq_setJ_eJ, hq_setJ_eA, hq_setJ_nx, hq_setJ_sl, hq_setA_tag, hq_setA_len, hq_setA_I, hq_setA_J, hq_setA_A, hq_setA_eI, hq_setA_eJ, hq_setA_eA, hq_setA_nx, hq_setA_sl, hq_rowI_tag, hq_rowI_len, hq_rowI_I, hq_rowI_J, hq_rowI_A, hq_rowI_eI, hq_rowI_eJ, hq_rowI_eA, hq_rowI_nx, hq_rowI_sl, hq_rowJ_tag, hq_rowJ_len, hq_rowJ_I, hq_rowJ_J, hq_rowJ_A, hq_rowJ_eI, hq_rowJ_eJ, hq_rowJ_eA, hq_rowJ_nx, hq_rowJ_sl, hq_rowA_tag, hq_rowA_len, hq_rowA_I, hq_rowA_J, hq_rowA_A, hq_rowA_eI, hq_rowA_eJ, hq_rowA_eA, hq_rowA_nx, hq_rowA_sl, va_up, up2_if, Nat.add_assoc]
  have eO : X.tag (op 0) = 20 := by
    rw [(kX.2.1 (op 0) hop (fun e => by rw [e, t] at top; exact absurd top (by decide))).1]
    exact top
  show Go z l mt_G_init (d + 9) 44 [.ref ob, .int (nI 0)] [] ((((((((σ.newA 25 1000).setA 15 ob (some σ.nx)).newA 23 1000).setA 16 ob (some (σ.nx + 1))).newA 21 1000).setA 17 ob (some (σ.nx + 2))).setI 18 ob 0).setI 19 ob 0) Q
  rw [← hX]
  refine ki_G_44 hs (b := σ.nx) (by omega) 1000 0 X rfl ((kX.2.2 ho).1.trans t) eA.1 eT.1 eL.1 eO (by omega) (fun j h9 => absurd h9 (Nat.not_lt_zero _)) (fun σ' f e1 e2 e3 e4 h9 => ?_)
  have fo := f ob (by omega)
  exact k σ' (kX.row (r := σ.nx) (Nat.le_refl _) ho f e3) (e3.trans eN.1) (e4.trans eN.2) ⟨((fo.2.2.1 15).2.2).trans eA.1, ((fo.2.2.1 16).2.2).trans eA.2.1, ((fo.2.2.1 17).2.2).trans eA.2.2⟩ (by rw [e1]; exact eT) (by rw [e2]; exact eL) ((fo.2.2.1 19).1.trans eI) h9
theorem ki_P (hs : gj_St z op sg aO aS mO mS) (t : σ.tag ob = 5) (hz : z.heap.size ≤ ob) (k : ∀ σ', Kp ob σ σ' → σ'.nx = σ.nx + 1 → σ'.sl = σ.sl + 7 → (σ'.A 27 ob = some σ.nx ∧ σ'.A 28 ob = some x1 ∧ σ'.A 20 σ.nx = some x1) → (σ'.tag σ.nx = 4 ∧ σ'.len σ.nx = 0) → Q (.returned none) σ') : Go z l mt_P_init (d + 10) 0 [.ref ob, .ref x1, .ref x2] [] σ Q := by
  refine go_wf fun hw => ?_
  have ho : ob < σ.nx := hw.lt (by rw [t]; decide)
  have bl := hw.1 σ.nx (Nat.le_refl _)
  refine ct_P_init (d := d + 1) t hz ?_
  obtain ⟨X, hX⟩ : ∃ X : Hp, X = (((((σ.setI 30 ob (-1)).setI 31 ob 0).setA 28 ob (some x1)).setA 29 ob (some x2)).newO 4 7) := ⟨_, rfl⟩
  have kX : Kp ob σ X := by rw [hX]; exact (Kp.rfl' ob σ).setI.setI.setA.setA.newO
  have eA : X.A 28 ob = some x1 := by rw [hX]; simp [hq_newO_tag, hq_newO_len, hq_newO_I, hq_newO_J, hq_newO_A, hq_newO_eI, hq_newO_eJ, hq_newO_eA, hq_newO_nx, hq_newO_sl, hq_newA_tag, hq_newA_len, hq_newA_I, hq_newA_J, hq_newA_A, hq_newA_eI, hq_newA_eJ, hq_newA_eA, hq_newA_nx, hq_newA_sl, hq_setI_tag, hq_setI_len, hq_setI_I, hq_setI_J, hq_setI_A, hq_setI_eI, hq_setI_eJ, hq_setI_eA, hq_setI_nx, hq_setI_sl, hq_setJ_tag, hq_setJ_len, hq_setJ_I, hq_setJ_J, hq_setJ_A, hq_setJ_eI, hq_setJ_eJ, hq_setJ_eA, hq_setJ_nx, hq_setJ_sl, hq_setA_tag, hq_setA_len, hq_setA_I, hq_setA_J, hq_setA_A, hq_setA_eI, hq_setA_eJ, hq_setA_eA, hq_setA_nx, hq_setA_sl, hq_rowI_tag, hq_rowI_len, hq_rowI_I, hq_rowI_J, hq_rowI_A, hq_rowI_eI, hq_rowI_eJ, hq_rowI_eA, hq_rowI_nx, hq_rowI_sl, hq_rowJ_tag, hq_rowJ_len, hq_rowJ_I, hq_rowJ_J, hq_rowJ_A, hq_rowJ_eI, hq_rowJ_eJ, hq_rowJ_eA, hq_rowJ_nx, hq_rowJ_sl, hq_rowA_tag, hq_rowA_len, hq_rowA_I, hq_rowA_J, hq_rowA_A, hq_rowA_eI, hq_rowA_eJ, hq_rowA_eA, hq_rowA_nx, hq_rowA_sl, va_up, up2_if, Nat.add_assoc]
  have eT : X.tag σ.nx = 4 ∧ X.len σ.nx = 0 := by
    rw [hX]
    exact ⟨hp_up_same _ _ _, bl.2.1⟩
  have eN : X.nx = σ.nx + 1 ∧ X.sl = σ.sl + 7 := by rw [hX]; exact ⟨rfl, rfl⟩
  show Go z l mt_S_init (d + 9) 0 [.ref σ.nx, .ref x1] [] (((((σ.setI 30 ob (-1)).setI 31 ob 0).setA 28 ob (some x1)).setA 29 ob (some x2)).newO 4 7) (fun o σ1 => hp_Le (((((σ.setI 30 ob (-1)).setI 31 ob 0).setA 28 ob (some x1)).setA 29 ob (some x2)).newO 4 7) σ1 → gj_next z l mt_P_init (d + 10) 30 [.ref ob, .ref x1, .ref x2] [.ref σ.nx, .ref ob] Q o σ1)
  rw [← hX]
  refine ki_S hs eT.1 (by omega) (fun τ g e1 e2 e3 _ => gj_nextV ?_)
  have so := g.2.1 ob (by rw [eN.1]; omega) (by omega)
  have tn := g.2.2 (by rw [eN.1]; omega)
  refine ct_P_init_33 (d := d + 1) (so.1.trans ((kX.2.2 ho).1.trans t)) hz (k _ ((kX.sub g (Nat.le_refl _) ho).setA) (e1.trans eN.1) (e2.trans eN.2) ⟨show up2 τ.A 27 ob (some σ.nx) 27 ob = some σ.nx from up2_same _ _ _ _, ?_, ?_⟩ ⟨tn.1.trans eT.1, tn.2.trans eT.2⟩)
  · show up2 τ.A 27 ob (some σ.nx) 28 ob = some x1
    rw [up2_nf _ _ (by decide), (so.2.2.1 28).2.2]
    exact eA
  · show up2 τ.A 27 ob (some σ.nx) 20 σ.nx = some x1
    rw [up2_nf _ _ (by decide)]
    exact e3
end Ctors
