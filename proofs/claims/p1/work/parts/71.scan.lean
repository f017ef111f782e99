/-! ===== the scanner: blanks, letters, digits ===== -/
/-- only the scanner's own things have changed -/
def NF (w w' : Wd) : Prop := (∀ i f, ¬ (i = 17 ∧ (f = 22 ∨ f = 24 ∨ f = 25)) → w'.I i f = w.I i f) ∧ (∀ i f, ¬ (i = 17 ∧ f = 26) → w'.J i f = w.J i f) ∧ (∀ i f, ¬ (i = 17 ∧ f = 23) → w'.A i f = w.A i f) ∧ w'.eI = w.eI ∧ w'.eJ = w.eJ ∧ w'.eA = w.eA
theorem NF.refl (w : Wd) : NF w w := ⟨fun _ _ _ => rfl, fun _ _ _ => rfl, fun _ _ _ => rfl, rfl, rfl, rfl⟩
theorem NF.trans {a b c : Wd} (h : NF a b) (k : NF b c) : NF a c :=
  ⟨fun i f q => (k.1 i f q).trans (h.1 i f q), fun i f q => (k.2.1 i f q).trans (h.2.1 i f q), fun i f q => (k.2.2.1 i f q).trans (h.2.2.1 i f q), k.2.2.2.1.trans h.2.2.2.1, k.2.2.2.2.1.trans h.2.2.2.2.1, k.2.2.2.2.2.trans h.2.2.2.2.2⟩
theorem nf_22 (w : Wd) (v : Int32) : NF w (w.setI 17 22 v) := ⟨fun i f q => (up22_eq _ _ _ _ _ _).trans (if_neg (fun e => q ⟨e.1, Or.inl e.2⟩)), fun _ _ _ => rfl, fun _ _ _ => rfl, rfl, rfl, rfl⟩
theorem nf_24 (w : Wd) (v : Int32) : NF w (w.setI 17 24 v) := ⟨fun i f q => (up22_eq _ _ _ _ _ _).trans (if_neg (fun e => q ⟨e.1, Or.inr (Or.inl e.2)⟩)), fun _ _ _ => rfl, fun _ _ _ => rfl, rfl, rfl, rfl⟩
theorem nf_25 (w : Wd) (v : Int32) : NF w (w.setI 17 25 v) := ⟨fun i f q => (up22_eq _ _ _ _ _ _).trans (if_neg (fun e => q ⟨e.1, Or.inr (Or.inr e.2)⟩)), fun _ _ _ => rfl, fun _ _ _ => rfl, rfl, rfl, rfl⟩
theorem nf_26 (w : Wd) (v : Int64) : NF w (w.setJ 17 26 v) := ⟨fun _ _ _ => rfl, fun i f q => (up22_eq _ _ _ _ _ _).trans (if_neg q), fun _ _ _ => rfl, rfl, rfl, rfl⟩
theorem nf_23 (w : Wd) (v : Option Nat) : NF w (w.setA 17 23 v) := ⟨fun _ _ _ => rfl, fun _ _ _ => rfl, fun i f q => (up22_eq _ _ _ _ _ _).trans (if_neg q), rfl, rfl, rfl⟩
theorem cl_no23 : ∀ q ∈ cl_tab, ¬ (q.1 = 17 ∧ q.2.1 = 23) ∧ ¬ (q.1 = 16 ∧ q.2.1 = 29) := by decide +kernel
theorem CLk.nf {w w' : Wd} {ad : Nat → Nat} (h : CLk w ad) (hf : NF w w') : CLk w' ad := fun q hq => (hf.2.2.1 _ _ (cl_no23 q hq).1).trans (h q hq)
theorem let_no {b : Int32} (h1 : b < 97 ∨ ¬ b ≤ 122) (h2 : b < 65 ∨ ¬ b ≤ 90) (h3 : ¬ b = 95) : ¬ sc_let b := by
  rintro (⟨q1, q2⟩ | ⟨q1, q2⟩ | q)
  · rcases h1 with h1 | h1
    · exact absurd h1 (Int32.not_lt.mpr q1)
    · exact h1 q2
  · rcases h2 with h2 | h2
    · exact absurd h2 (Int32.not_lt.mpr q1)
    · exact h2 q2
  · exact h3 q
section Scan
variable {z : State} {l : Launch} {d : Nat} {σ : Hp} {ad : Nat → Nat} {w : Wd} {Q : Outcome → Hp → Prop} {op sg : Nat → Nat} {aO aS mO mS : Nat} {T : Nat → Int32} {L : Nat}
theorem cl_let {b : Int32} (hc : CW z σ ad) (k : Q (.returned (some (.int (b2i (decide (sc_let b)))))) (ov σ ad 21 w)) : Go z l mt_S_isLetter (d + 9) 0 [.int b] [] (ov σ ad 21 w) Q := by
  have ky : sc_let b → Q (.returned (some (.int 1))) (ov σ ad 21 w) := fun h => by rw [decide_eq_true h] at k; exact k
  have kn : ¬ sc_let b → Q (.returned (some (.int 0))) (ov σ ad 21 w) := fun h => by rw [decide_eq_false h] at k; exact k
  exact cs_S_isLetter (d := d) hc (fun a b c => kn (let_no (.inl a) (.inl b) c)) (fun _ _ h => ky (.inr (.inr h))) (fun _ b c => ky (.inr (.inl ⟨Int32.not_lt.mp b, c⟩))) (fun a _ c e => kn (let_no (.inl a) (.inr c) e)) (fun _ _ _ h => ky (.inr (.inr h))) (fun a b => ky (.inl ⟨Int32.not_lt.mp a, b⟩)) (fun _ b c e => kn (let_no (.inr b) (.inl c) e)) (fun _ _ _ h => ky (.inr (.inr h))) (fun _ _ c e => ky (.inr (.inl ⟨Int32.not_lt.mp c, e⟩))) (fun _ b _ e f => kn (let_no (.inr b) (.inr e) f)) (fun _ _ _ _ h => ky (.inr (.inr h)))
theorem cl_dig {b : Int32} (hc : CW z σ ad) (k : Q (.returned (some (.int (b2i (decide (sc_dig b)))))) (ov σ ad 21 w)) : Go z l mt_S_isDigit (d + 9) 0 [.int b] [] (ov σ ad 21 w) Q := by
  have ky : sc_dig b → Q (.returned (some (.int 1))) (ov σ ad 21 w) := fun h => by rw [decide_eq_true h] at k; exact k
  have kn : ¬ sc_dig b → Q (.returned (some (.int 0))) (ov σ ad 21 w) := fun h => by rw [decide_eq_false h] at k; exact k
  exact cs_S_isDigit (d := d) hc (fun a => kn (fun q => absurd a (Int32.not_lt.mpr q.1))) (fun _ a => kn (fun q => absurd a (Int32.not_lt.mpr q.2))) (fun a b => ky ⟨Int32.not_lt.mp a, Int32.not_lt.mp b⟩)
theorem cl_skip_loop (hc : CW z σ ad) (hl : CLk w ad) (hT : w.eI 1 = T) (hL : w.I 17 21 = nI L) (hL2 : L ≤ 1000) : ∀ (n : Nat) (cm : Bool) (p : Nat), p + n = L → Q (.returned none) (ov σ ad 21 (w.setI 17 22 (nI (sc_skip T L n cm p)))) → Go z l mt_S_skipBlanks (d + 9) 2 [.ref (ad 17), .int (b2i cm), .retAddr 0] [] (ov σ ad 21 (w.setI 17 22 (nI p))) Q := by
  intro n
  induction n with
  | zero =>
    intro cm p hp k
    have q : (w.setI 17 22 (nI p)).I 17 21 ≤ (w.setI 17 22 (nI p)).I 17 22 := by
      show w.I 17 21 ≤ nI p
      rw [hL]; exact nI_le (by omega) (by omega)
    exact cs_S_skipBlanks_2 (d := d) hc (hl.nf (nf_22 _ _)) (fun _ => k) (fun h => absurd q h) (fun h => absurd q h) (fun h => absurd q h) (fun h => absurd q h) (fun h => absurd q h) (fun h => absurd q h) (fun h => absurd q h) (fun h => absurd q h) (fun h => absurd q h) (fun h => absurd q h) (fun h => absurd q h) (fun h => absurd q h) (fun h => absurd q h) (fun h => absurd q h) (fun h => absurd q h) (fun h => absurd q h) (fun h => absurd q h) (fun h => absurd q h) (fun h => absurd q h) (fun h => absurd q h)
  | succ n ih =>
    intro cm p hp k
    have hnl : ¬ L ≤ p := by omega
    have q : ¬ (w.setI 17 22 (nI p)).I 17 21 ≤ (w.setI 17 22 (nI p)).I 17 22 := by
      show ¬ w.I 17 21 ≤ nI p
      rw [hL]; exact nI_ge (by omega) (by omega)
    have eB : (w.setI 17 22 (nI p)).eI 1 ((w.setI 17 22 (nI p)).I 17 22).toNatClampNeg = T p := by
      show w.eI 1 (nI p).toNatClampNeg = T p
      rw [nI_clamp (by omega), hT]
    have eC : (w.setI 17 22 (nI p)).eI 1 ((w.setI 17 22 (nI p)).I 17 22 + 1).toNatClampNeg = T (p + 1) := by
      show w.eI 1 (nI p + 1).toNatClampNeg = T (p + 1)
      rw [nI_1, nI_clamp (by omega), hT]
    have eL : (w.setI 17 22 (nI p)).I 17 21 ≤ (w.setI 17 22 (nI p)).I 17 22 + 1 ↔ L ≤ p + 1 := by
      show w.I 17 21 ≤ nI p + 1 ↔ _
      rw [hL, nI_1]; exact nI_leI (by omega) (by omega)
    have vi : vp_in ((w.setI 17 22 (nI p)).I 17 22) 1000 := vp_in_nI (by omega) (by omega)
    have step : ∀ (cm' : Bool) (v : Value), sc_skip T L n cm' (p + 1) = sc_skip T L (n + 1) cm p → Go z l mt_S_skipBlanks (d + 9) 2 [.ref (ad 17), .int (b2i cm'), v] [] (ov σ ad 21 ((w.setI 17 22 (nI p)).setI 17 22 ((w.setI 17 22 (nI p)).I 17 22 + 1))) Q := fun cm' v h => by
      rw [show (w.setI 17 22 (nI p)).I 17 22 + 1 = nI (p + 1) from nI_1 p, Wd.setI_setI]
      exact go_drop 2 (ih cm' (p + 1) (by omega) (by rw [h]; exact k))
    cases cm with
    | true =>
      have no : ∀ P : Prop, b2i true = 0 → P := fun P h => absurd (show (1 : Int32) = 0 from h) (by decide)
      refine cs_S_skipBlanks_2 (d := d) hc (hl.nf (nf_22 _ _)) (fun h => absurd h q) (fun _ => vi) (fun _ h => no _ h) (fun _ h => no _ h) (fun _ h => no _ h) (fun _ h => no _ h) (fun _ h => no _ h) (fun _ h => no _ h) (fun _ h => no _ h) (fun _ h => no _ h) (fun _ h => no _ h) (fun _ h => no _ h) (fun _ h => no _ h) (fun _ h => no _ h) (fun _ h => no _ h) (fun _ h => no _ h) (fun _ h => no _ h) (fun _ h => no _ h) (fun _ h => no _ h) (fun _ _ h => step false _ ?_) (fun _ _ h => step true _ ?_)
      · rw [eB] at h
        rw [sc_skip, if_neg hnl, if_pos rfl, decide_eq_false (fun q => q h)]
      · rw [eB] at h
        rw [sc_skip, if_neg hnl, if_pos rfl, decide_eq_true h]
    | false =>
      have hf : ¬ (false = true) := by decide
      have bl : ∀ {b : Int32}, b = T p → sc_blank b → ¬ (T p = 45 ∧ p + 1 < L ∧ T (p + 1) = 45) → sc_skip T L n false (p + 1) = sc_skip T L (n + 1) false p := fun e h1 h2 => by
        rw [e] at h1
        rw [sc_skip, if_neg hnl, if_neg hf, if_neg h2, if_pos h1]
      have en : ¬ sc_blank (T p) → ¬ (T p = 45 ∧ p + 1 < L ∧ T (p + 1) = 45) → Q (.returned none) (ov σ ad 21 (w.setI 17 22 (nI p))) := fun h1 h2 => by
        rw [sc_skip, if_neg hnl, if_neg hf, if_neg h2, if_neg h1] at k
        exact k
      have nb : ∀ {b : Int32}, b = T p → ¬ b = 32 → ¬ b = 9 → ¬ b = 10 → ¬ b = 13 → ¬ sc_blank (T p) := fun e a1 a2 a3 a4 h => by
        rw [e] at a1 a2 a3 a4
        rcases h with h | h | h | h
        · exact a1 h
        · exact a2 h
        · exact a3 h
        · exact a4 h
      have n1 : ¬ (w.setI 17 22 (nI p)).eI 1 ((w.setI 17 22 (nI p)).I 17 22).toNatClampNeg = 45 → ¬ (T p = 45 ∧ p + 1 < L ∧ T (p + 1) = 45) := fun h q => h (eB.trans q.1)
      have n2 : (w.setI 17 22 (nI p)).I 17 21 ≤ (w.setI 17 22 (nI p)).I 17 22 + 1 → ¬ (T p = 45 ∧ p + 1 < L ∧ T (p + 1) = 45) := fun h q => by
        have := eL.mp h
        omega
      have n3 : ¬ (w.setI 17 22 (nI p)).eI 1 ((w.setI 17 22 (nI p)).I 17 22 + 1).toNatClampNeg = 45 → ¬ (T p = 45 ∧ p + 1 < L ∧ T (p + 1) = 45) := fun h q => h (eC.trans q.2.2)
      have no : ∀ P : Prop, ¬ b2i false = 0 → P := fun P h => absurd rfl h
      refine cs_S_skipBlanks_2 (d := d) hc (hl.nf (nf_22 _ _)) (fun h => absurd h q) (fun _ => vi)
        (fun _ _ a b => step false _ (bl eB (.inl b) (n1 a))) (fun _ _ a _ b => step false _ (bl eB (.inr (.inl b)) (n1 a))) (fun _ _ a _ _ b => step false _ (bl eB (.inr (.inr (.inl b))) (n1 a))) (fun _ _ a b1 b2 b3 b4 => en (nb eB b1 b2 b3 b4) (n1 a)) (fun _ _ a _ _ _ b => step false _ (bl eB (.inr (.inr (.inr b))) (n1 a)))
        (fun _ _ _ a b => step false _ (bl eB (.inl b) (n2 a))) (fun _ _ _ a _ b => step false _ (bl eB (.inr (.inl b)) (n2 a))) (fun _ _ _ a _ _ b => step false _ (bl eB (.inr (.inr (.inl b))) (n2 a))) (fun _ _ _ a b1 b2 b3 b4 => en (nb eB b1 b2 b3 b4) (n2 a)) (fun _ _ _ a _ _ _ b => step false _ (bl eB (.inr (.inr (.inr b))) (n2 a)))
        (fun _ _ _ h => ?_)
        (fun _ _ _ _ a b => step false _ (bl eB (.inl b) (n3 a))) (fun _ _ _ _ a _ b => step false _ (bl eB (.inr (.inl b)) (n3 a))) (fun _ _ _ _ a _ _ b => step false _ (bl eB (.inr (.inr (.inl b))) (n3 a))) (fun _ _ _ _ a b1 b2 b3 b4 => en (nb eB b1 b2 b3 b4) (n3 a)) (fun _ _ _ _ a _ _ _ b => step false _ (bl eB (.inr (.inr (.inr b))) (n3 a)))
        (fun _ _ a b c => step true _ ?_) (fun _ h => no _ h) (fun _ h => no _ h)
      · have h' : ¬ L ≤ p + 1 := fun q => h (eL.mpr q)
        show vp_in (nI p + 1) 1000
        rw [nI_1]
        exact vp_in_nI (by omega) (by omega)
      · have h' : ¬ L ≤ p + 1 := fun q => b (eL.mpr q)
        rw [eB] at a
        rw [eC] at c
        rw [sc_skip, if_neg hnl, if_neg hf, if_pos ⟨a, by omega, c⟩]
theorem cl_skip {p : Nat} (hc : CW z σ ad) (hl : CLk w ad) (hT : w.eI 1 = T) (hL : w.I 17 21 = nI L) (hL2 : L ≤ 1000) (hp : w.I 17 22 = nI p) (hpL : p ≤ L) (k : Q (.returned none) (ov σ ad 21 (w.setI 17 22 (nI (tk_s T L p))))) : Go z l mt_S_skipBlanks (d + 9) 0 [.ref (ad 17), .retAddr 0, .retAddr 0] [] (ov σ ad 21 w) Q := by
  have h := cl_skip_loop (d := d) (l := l) (z := z) hc hl hT hL hL2 (L - p) false p (by omega) k
  rw [wd_I0 hp] at h
  exact cs_S_skipBlanks (d := d) hc h
end Scan
