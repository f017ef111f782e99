/-! ===== the parser's state ===== -/
/-- only the parser's own things have changed -/
def PF (w w' : Wd) : Prop := (∀ i f, i ≠ 12 → i ≠ 16 → i ≠ 17 → w'.I i f = w.I i f) ∧ w'.I 17 21 = w.I 17 21 ∧ (∀ i f, i ≠ 17 → w'.J i f = w.J i f) ∧ (∀ i f, ¬ (i = 17 ∧ f = 23) → w'.A i f = w.A i f) ∧ (∀ i, i ≠ 15 → w'.eI i = w.eI i) ∧ (∀ i, i ≠ 14 → w'.eJ i = w.eJ i) ∧ (∀ i, i ≠ 13 → w'.eA i = w.eA i)
theorem PF.refl (w : Wd) : PF w w := ⟨fun _ _ _ _ _ => rfl, rfl, fun _ _ _ => rfl, fun _ _ _ => rfl, fun _ _ => rfl, fun _ _ => rfl, fun _ _ => rfl⟩
theorem PF.trans {a b c : Wd} (h : PF a b) (k : PF b c) : PF a c :=
  ⟨fun i f x y u => (k.1 i f x y u).trans (h.1 i f x y u), k.2.1.trans h.2.1, fun i f q => (k.2.2.1 i f q).trans (h.2.2.1 i f q), fun i f q => (k.2.2.2.1 i f q).trans (h.2.2.2.1 i f q), fun i q => (k.2.2.2.2.1 i q).trans (h.2.2.2.2.1 i q), fun i q => (k.2.2.2.2.2.1 i q).trans (h.2.2.2.2.2.1 i q), fun i q => (k.2.2.2.2.2.2 i q).trans (h.2.2.2.2.2.2 i q)⟩
theorem PF.nf {w w' : Wd} (h : NF w w') : PF w w' :=
  ⟨fun i f _ _ u => h.1 i f (fun q => u q.1), h.1 17 21 (by decide), fun i f q => h.2.1 i f (fun e => q e.1), fun i f q => h.2.2.1 i f q, fun i _ => by rw [h.2.2.2.1], fun i _ => by rw [h.2.2.2.2.1], fun i _ => by rw [h.2.2.2.2.2]⟩
theorem pf_I12 (w : Wd) (f : Nat) (v : Int32) : PF w (w.setI 12 f v) := ⟨fun i g a _ _ => (up22_eq _ _ _ _ _ _).trans (if_neg (fun e => a e.1)), rfl, fun _ _ _ => rfl, fun _ _ _ => rfl, fun _ _ => rfl, fun _ _ => rfl, fun _ _ => rfl⟩
theorem pf_I16 (w : Wd) (f : Nat) (v : Int32) : PF w (w.setI 16 f v) := ⟨fun i g _ a _ => (up22_eq _ _ _ _ _ _).trans (if_neg (fun e => a e.1)), rfl, fun _ _ _ => rfl, fun _ _ _ => rfl, fun _ _ => rfl, fun _ _ => rfl, fun _ _ => rfl⟩
theorem pf_15 (w : Wd) (g : Nat → Int32) : PF w (w.rowI 15 g) := ⟨fun _ _ _ _ _ => rfl, rfl, fun _ _ _ => rfl, fun _ _ _ => rfl, fun i a => (up21_eq _ _ _ _).trans (if_neg a), fun _ _ => rfl, fun _ _ => rfl⟩
theorem pf_14 (w : Wd) (g : Nat → Int64) : PF w (w.rowJ 14 g) := ⟨fun _ _ _ _ _ => rfl, rfl, fun _ _ _ => rfl, fun _ _ _ => rfl, fun _ _ => rfl, fun i a => (up21_eq _ _ _ _).trans (if_neg a), fun _ _ => rfl⟩
theorem pf_13 (w : Wd) (g : Nat → Option Nat) : PF w (w.rowA 13 g) := ⟨fun _ _ _ _ _ => rfl, rfl, fun _ _ _ => rfl, fun _ _ _ => rfl, fun _ _ => rfl, fun _ _ => rfl, fun i a => (up21_eq _ _ _ _).trans (if_neg a)⟩
theorem CLk.pf {w w' : Wd} {ad : Nat → Nat} (h : CLk w ad) (hf : PF w w') : CLk w' ad := fun q hq => (hf.2.2.2.1 _ _ (cl_no23 q hq).1).trans (h q hq)
/-- links of the class, of the parser to the program that it fills; the steps of that program -/
def PL (ad op : Nat → Nat) (w : Wd) (ko : Nat → Nat) : Prop := CLk w ad ∧ w.A 16 29 = some (ad 12) ∧ ∀ j, j < 1000 → w.eA 13 j = some (op (ko j)) ∧ ko j < 43
/-- the text is not broken so far: place p, operators, steps, characters -/
def GS (ad op sg : Nat → Nat) (T : Nat → Int32) (L : Nat) (w : Wd) (p ops n c : Nat) (ko : Nat → Nat) : Prop :=
  PL ad op w ko ∧ w.eI 1 = T ∧ w.I 17 21 = nI L ∧ TK sg T L w p ∧ w.I 16 30 = -1 ∧ w.I 16 31 = nI ops ∧ w.I 12 19 = nI n ∧ w.I 12 18 = nI c ∧ n ≤ tk_s T L p ∧ c ≤ tk_s T L p ∧ p ≤ L ∧ L ≤ 1000 ∧ ops ≤ 300
/-- the text is broken at the place e -/
def BS (ad op sg : Nat → Nat) (w : Wd) (e : Nat) : Prop := w.A 17 23 = some (sg 34) ∧ w.I 16 30 = nI e ∧ e ≤ 1000 ∧ ∃ n ko, PL ad op w ko ∧ w.I 12 19 = nI n ∧ n ≤ 1000
/-- what stays of a program that grows from n, c to n', c' while the text is read from p to p' -/
def Gr (T : Nat → Int32) (L : Nat) (w w' : Wd) (p p' n n' c c' : Nat) (ko ko' : Nat → Nat) : Prop :=
  (∀ j, j < n → ko' j = ko j ∧ w'.eJ 14 j = w.eJ 14 j) ∧ (∀ j, j < c → w'.eI 15 j = w.eI 15 j) ∧ n ≤ n' ∧ c ≤ c' ∧ n' + tk_s T L p ≤ n + tk_s T L p' ∧ c' + tk_s T L p ≤ c + tk_s T L p'
theorem Gr.refl (T : Nat → Int32) (L : Nat) (w : Wd) (p n c : Nat) (ko : Nat → Nat) : Gr T L w w p p n n c c ko ko := ⟨fun _ _ => ⟨rfl, rfl⟩, fun _ _ => rfl, Nat.le_refl _, Nat.le_refl _, Nat.le_refl _, Nat.le_refl _⟩
theorem Gr.trans {T : Nat → Int32} {L : Nat} {w w' w'' : Wd} {p p' p'' n n' n'' c c' c'' : Nat} {ko ko' ko'' : Nat → Nat} (h : Gr T L w w' p p' n n' c c' ko ko') (k : Gr T L w' w'' p' p'' n' n'' c' c'' ko' ko'') : Gr T L w w'' p p'' n n'' c c'' ko ko'' := by
  obtain ⟨a1, a2, a3, a4, a5, a6⟩ := h
  obtain ⟨b1, b2, b3, b4, b5, b6⟩ := k
  exact ⟨fun j hj => ⟨(b1 j (by omega)).1.trans (a1 j hj).1, (b1 j (by omega)).2.trans (a1 j hj).2⟩, fun j hj => (b2 j (by omega)).trans (a2 j hj), by omega, by omega, by omega, by omega⟩
theorem go_eq {z : State} {l : Launch} {M : Mt} {a b pc : Nat} {ls st : List Value} {σ : Hp} {Q : Outcome → Hp → Prop} (h : a = b) (k : Go z l M a pc ls st σ Q) : Go z l M b pc ls st σ Q := h ▸ k
section Par
variable {z : State} {l : Launch} {d : Nat} {σ : Hp} {ad : Nat → Nat} {w : Wd} {Q : Outcome → Hp → Prop} {op sg : Nat → Nat} {aO aS mO mS : Nat} {T : Nat → Int32} {L : Nat} {p ops n c e : Nat} {ko : Nat → Nat}
theorem n1_ne {e : Nat} (h : e ≤ 1000) : ¬ nI e = (-1 : Int32) := fun q => by
  have h1 : (nI e).toNatClampNeg = e := nI_clamp (by omega)
  have h0 : ¬ nI e < 0 := nI_pos (by omega)
  rw [q] at h0
  exact h0 (by decide)
/-- one step more -/
theorem pl_add {ko : Nat → Nat} {n o : Nat} {x : Int64} {v : Int32} (h : PL ad op w ko) (ho : o < 43) : PL ad op (((w.rowA 13 (va_up (w.eA 13) n (some (op o)))).rowJ 14 (va_up (w.eJ 14) n x)).setI 12 19 v) (va_up ko n o) := by
  refine ⟨h.1, h.2.1, fun j hj => ?_⟩
  show va_up (w.eA 13) n (some (op o)) j = some (op (va_up ko n o j)) ∧ va_up ko n o j < 43
  by_cases hjn : j = n
  · subst hjn
    rw [hp_up_same, hp_up_same]
    exact ⟨rfl, ho⟩
  · rw [hp_up_ne _ _ hjn, hp_up_ne _ _ hjn]
    exact h.2.2 j hj
theorem pf_add {n o : Nat} {x : Int64} {v : Int32} : PF w (((w.rowA 13 (va_up (w.eA 13) n (some (op o)))).rowJ 14 (va_up (w.eJ 14) n x)).setI 12 19 v) := (pf_13 _ _).trans ((pf_14 _ _).trans (pf_I12 _ _ _))
/-- adding a step, whatever there is -/
theorem cb_add {o : Nat} {x : Int64} (hc : CW z σ ad) (hs : gj_St z op sg aO aS mO mS) (ht : σ.tag (op o) = 20) (ho : o < 43) (hB : BS ad op sg w e) (k : ∀ w' v, PF w w' → BS ad op sg w' e → Q (.returned (some (.int v))) (ov σ ad 21 w')) : Go z l mt_G_add (d + 9) 0 [.ref (ad 12), .ref (op o), .long x, .retAddr 0] [] (ov σ ad 21 w) Q := by
  obtain ⟨b1, b2, b3, n, ko, b4, b5, b6⟩ := hB
  have vi : w.I 12 19 < 1000 → vp_in (w.I 12 19) 1000 := fun h => by
    rw [b5] at h ⊢
    have := (nI_ltI (b := 1000) (by omega) (by omega)).mp h
    exact vp_in_nI (by omega) (by omega)
  refine cs_G_add (d := d) hc hs b4.1 ht vi vi (fun h => k _ _ pf_add ⟨b1, b2, b3, n + 1, va_up ko n o, ?_, ?_, ?_⟩) (fun h => k _ _ (PF.refl w) ⟨b1, b2, b3, n, ko, b4, b5, b6⟩)
  · rw [show (w.I 12 19).toNatClampNeg = n by rw [b5]; exact nI_clamp (by omega)]
    exact pl_add b4 ho
  · show w.I 12 19 + 1 = _
    rw [b5, nI_1]
  · rw [b5] at h
    have := (nI_ltI (b := 1000) (by omega) (by omega)).mp h
    omega
/-- adding a step to a program that is not full -/
theorem cg_add {o : Nat} {x : Int64} (hc : CW z σ ad) (hs : gj_St z op sg aO aS mO mS) (ht : σ.tag (op o) = 20) (ho : o < 43) (hP : PL ad op w ko) (hn : w.I 12 19 = nI n) (hn9 : n < 1000) (k : Q (.returned (some (.int (nI n)))) (ov σ ad 21 (((w.rowA 13 (va_up (w.eA 13) n (some (op o)))).rowJ 14 (va_up (w.eJ 14) n x)).setI 12 19 (nI (n + 1))))) : Go z l mt_G_add (d + 9) 0 [.ref (ad 12), .ref (op o), .long x, .retAddr 0] [] (ov σ ad 21 w) Q := by
  have vi : w.I 12 19 < 1000 → vp_in (w.I 12 19) 1000 := fun _ => by
    rw [hn]
    exact vp_in_nI (by omega) (by omega)
  refine cs_G_add (d := d) hc hs hP.1 ht vi vi (fun h => ?_) (fun h => absurd ?_ h)
  · have e9 : nI (n + 1) - 1 = nI n := pk_sub (a := n + 1) (b := 1) (by omega)
    rw [hn, nI_clamp (by omega), nI_1, e9]
    exact k
  · rw [hn]
    exact nI_lt (b := 1000) (by omega) (by omega)
/-- jumps are aimed, whatever there is -/
theorem cb_aim {x1 x2 : Int32} (hc : CW z σ ad) (hB : BS ad op sg w e) (k : ∀ w', PF w w' → BS ad op sg w' e → Q (.returned none) (ov σ ad 21 w')) : Go z l mt_G_aim (d + 9) 0 [.ref (ad 12), .int x1, .int x2, .retAddr 0, .retAddr 0, .retAddr 0] [] (ov σ ad 21 w) Q := by
  have loop : ∀ (m i : Nat) (w' : Wd) (v3 : Int32), i + m = 1001 → PF w w' → BS ad op sg w' e → Go z l mt_G_aim (d + 9) 5 [.ref (ad 12), .int x1, .int x2, .int v3, .int (nI i), .retAddr 0] [] (ov σ ad 21 w') Q := by
    intro m
    induction m with
    | zero =>
      intro i w' v3 hi hf hB'
      have hk := k w' hf hB'
      obtain ⟨b1, b2, b3, n, ko, b4, b5, b6⟩ := hB'
      have q : w'.I 12 19 ≤ nI i := by rw [b5]; exact nI_le (by omega) (by omega)
      exact cs_G_aim_5 (d := d) hc b4.1 (fun _ => hk) (fun h => absurd q h) (fun h => absurd q h) (fun h => absurd q h) (fun h => absurd q h)
    | succ m ih =>
      intro i w' v3 hi hf hB'
      have hk := k w' hf hB'
      obtain ⟨b1, b2, b3, n, ko, b4, b5, b6⟩ := hB'
      refine cs_G_aim_5 (d := d) hc b4.1 (fun _ => hk) (fun _ _ => hk) (fun _ _ _ => hk) (fun _ h1 h2 => ?_) (fun _ h1 h2 => ?_)
      · rw [b5] at h2
        have h1' : (0 : Int32) ≤ v3 := Int32.not_lt.mp h1
        have h2' : v3 < nI n := Int32.not_le.mp h2
        exact vp_in_ofn h1' h2' b6
      · rw [nI_1]
        refine go_drop 5 (ih (i + 1) _ _ (by omega) (hf.trans (pf_14 _ _)) ⟨b1, b2, b3, n, ko, ⟨b4.1, b4.2.1, b4.2.2⟩, b5, b6⟩)
  have := loop 1001 0 w x1 rfl (PF.refl w) hB
  exact cs_G_aim (d := d) hc this
end Par
