/-! ===== class and reference in one heap ===== -/
theorem sc_ovn {σ : Hp} {ad : Nat → Nat} {n : Nat} {w : Wd} {x : Nat} (h : ∀ i, i < n → x ≠ ad i) : SameC σ (ov σ ad n w) x := by
  have hn : ovx ad n x = none := by
    rcases ovx_cases ad n x with ⟨i, hi, e⟩ | ⟨-, hd⟩
    · exact absurd e (h i hi)
    · exact hd
  exact ⟨rfl, rfl, fun f => ⟨ovm_none hn _ _, ovm_none hn _ _, ovm_none hn _ _⟩, ovm_none hn _ _, ovm_none hn _ _, ovm_none hn _ _⟩
theorem ov_reN {n : Nat} {σ H : Hp} {am : Nat → Nat} {w : Wd} (hi : ov_inj am n) (h : ∀ i, i < n → SameC (ov σ am n w) H (am i)) : H = ov H am n w := by
  have eI : H.I = fun f a => ovm am n a (fun k => w.I k f) (H.I f a) := by
    funext f a
    rcases ovx_cases am n a with ⟨i, hi9, rfl⟩ | ⟨-, hn⟩
    · rw [ovm_at hi hi9, ((h i hi9).2.2.1 f).1, ov_I hi hi9]
    · rw [ovm_none hn]
  have eJ : H.J = fun f a => ovm am n a (fun k => w.J k f) (H.J f a) := by
    funext f a
    rcases ovx_cases am n a with ⟨i, hi9, rfl⟩ | ⟨-, hn⟩
    · rw [ovm_at hi hi9, ((h i hi9).2.2.1 f).2.1, ov_J hi hi9]
    · rw [ovm_none hn]
  have eA : H.A = fun f a => ovm am n a (fun k => w.A k f) (H.A f a) := by
    funext f a
    rcases ovx_cases am n a with ⟨i, hi9, rfl⟩ | ⟨-, hn⟩
    · rw [ovm_at hi hi9, ((h i hi9).2.2.1 f).2.2, ov_A hi hi9]
    · rw [ovm_none hn]
  have e1 : H.eI = fun a => ovm am n a w.eI (H.eI a) := by
    funext a
    rcases ovx_cases am n a with ⟨i, hi9, rfl⟩ | ⟨-, hn⟩
    · rw [ovm_at hi hi9, (h i hi9).2.2.2.1, ov_eI hi hi9]
    · rw [ovm_none hn]
  have e2 : H.eJ = fun a => ovm am n a w.eJ (H.eJ a) := by
    funext a
    rcases ovx_cases am n a with ⟨i, hi9, rfl⟩ | ⟨-, hn⟩
    · rw [ovm_at hi hi9, (h i hi9).2.2.2.2.1, ov_eJ hi hi9]
    · rw [ovm_none hn]
  have e3 : H.eA = fun a => ovm am n a w.eA (H.eA a) := by
    funext a
    rcases ovx_cases am n a with ⟨i, hi9, rfl⟩ | ⟨-, hn⟩
    · rw [ovm_at hi hi9, (h i hi9).2.2.2.2.2, ov_eA hi hi9]
    · rw [ovm_none hn]
  have key : ((H.tag, H.len, H.I, H.J, H.A, H.eI, H.eJ, H.eA, H.nx, H.sl) : Hp) = (H.tag, H.len, (fun f a => ovm am n a (fun k => w.I k f) (H.I f a)), (fun f a => ovm am n a (fun k => w.J k f) (H.J f a)), (fun f a => ovm am n a (fun k => w.A k f) (H.A f a)), (fun a => ovm am n a w.eI (H.eI a)), (fun a => ovm am n a w.eJ (H.eJ a)), (fun a => ovm am n a w.eA (H.eA a)), H.nx, H.sl) := by
    rw [← eI, ← eJ, ← eA, ← e1, ← e2, ← e3]
  exact key
theorem CI.fr {z : State} {σ σ' : Hp} {ad op sg : Nat → Nat} {aO aS mO mS : Nat} {w : Wd} {a : Ab} (h : CI z σ ad op sg aO aS mO mS w a) (ho : ∀ x, x < z.heap.size → SameC σ σ' x) (hc : ∀ i, i < 21 → σ'.tag (ad i) = σ.tag (ad i) ∧ σ'.len (ad i) = σ.len (ad i)) (hop : ∀ i, i < 43 → σ'.tag (op i) = σ.tag (op i)) : CI z σ' ad op sg aO aS mO mS w a := by
  obtain ⟨⟨⟨p1, p2⟩, p3, p4, ⟨p5, p6⟩⟩, h2⟩ := h
  refine ⟨⟨⟨p1, fun i hi => ⟨(hc i hi).1.trans (p2 i hi).1, (hc i hi).2.trans (p2 i hi).2.1, (p2 i hi).2.2⟩⟩, p3, fun i hi => (hop i hi).trans (p4 i hi), fun i hi => ?_, fun h => absurd h (Nat.lt_irrefl 0)⟩, h2⟩
  obtain ⟨a9, q1, q2⟩ := p5 i hi
  exact ⟨a9, q1, q2.mv ho⟩
theorem st_opO {z : State} {op sg : Nat → Nat} {aO aS mO mS : Nat} (h : gj_St z op sg aO aS mO mS) {i : Nat} (hi : i < 43) : op i < z.heap.size := by
  obtain ⟨_, _, _, _, hA⟩ := (h.1.1 i (by rw [show opN.length = 43 from rfl]; exact hi)).2.1
  exact Nat.lt_of_not_le hA
/-- both in one heap -/
def JI (z : State) (H : Hp) (ad am op sg : Nat → Nat) (aO aS mO mS : Nat) (ac ar : Ab) (bc ou c s : Nat) : Prop :=
  (∃ wc, H = ov H ad 21 wc ∧ CI z H ad op sg aO aS mO mS wc ac) ∧ (∃ wr, H = ov H am 7 wr ∧ MI z H am wr ar bc ou c s) ∧ (∀ i, i < 21 → ad i < bc) ∧ H.len ou = 1
section Joint
variable {z : State} {l : Launch} {d : Nat} {H H' : Hp} {ad ad' am op sg : Nat → Nat} {aO aS mO mS : Nat} {ac ar a' : Ab} {bc ou c s : Nat} {Q : Outcome → Hp → Prop}
theorem MI.oux {w : Wd} (h : MI z H am w ar bc ou c s) : H.tag ou = 23 ∧ bc ≤ ou ∧ z.heap.size ≤ bc ∧ z.heap.size ≤ ou ∧ ou < H.nx ∧ (∀ i, i < 7 → bc ≤ am i ∧ am i < H.nx ∧ am i ≠ ou) ∧ CM z H am := by
  obtain ⟨b0, vs, ts, S, q, sa, hM, hO, -⟩ := h
  have h1 := hM.2.2.2.1
  have h2 := hM.2.2.2.2.2.1
  refine ⟨hO.1, hO.2.1, h1, by omega, by omega, fun i hi => ⟨(hM.2.2.2.2.1 i hi).1, by have := (hM.2.2.2.2.1 i hi).2; omega, fun e => ?_⟩, hM.1⟩
  have h3 := (hM.1.2 i hi).1
  rw [e, hO.1] at h3
  exact (show ∀ i, i < 7 → 23 ≠ cm_tag i by decide) i hi h3
theorem MI.wide {w : Wd} {c' s' : Nat} (h : MI z H am w ar bc ou c s) (h1 : c ≤ c') (h2 : s ≤ s') : MI z H am w ar bc ou c' s' := by
  obtain ⟨b0, vs, ts, S, q, sa, hM, hO, hV, hS, hPl, hR, hN, q1, q2⟩ := h
  exact ⟨b0, vs, ts, S, q, sa, hM, hO, hV, hS, hPl, hR, hN, by omega, by omega⟩
theorem JI.wide {c' s' : Nat} (h : JI z H ad am op sg aO aS mO mS ac ar bc ou c s) (h1 : c ≤ c') (h2 : s ≤ s') : JI z H ad am op sg aO aS mO mS ac ar bc ou c' s' := by
  obtain ⟨hc, ⟨wr, e, hm⟩, h3⟩ := h
  exact ⟨hc, ⟨wr, e, hm.wide h1 h2⟩, h3⟩
theorem CI.opz {w : Wd} {σ : Hp} (h : CI z σ ad op sg aO aS mO mS w ac) {i : Nat} (hi : i < 43) : σ.tag (op i) = 20 := h.1.2.2.1 i hi
theorem CI.opO {w : Wd} {σ : Hp} (h : CI z σ ad op sg aO aS mO mS w ac) {i : Nat} (hi : i < 43) : op i < z.heap.size := by
  exact st_opO h.1.2.1 hi
/-- the class has gone on -/
theorem JI.cls {w' : Wd} (h : JI z H ad am op sg aO aS mO mS ac ar bc ou c s) (hw : hp_wf H) (e : H' = ov H' ad' 21 w') (hC : CI z H ad' op sg aO aS mO mS w' a') (had : ∀ i, i < 21 → ad' i < bc) (f : ∀ x, x < H.nx → x ≠ ou → bc ≤ x ∨ x < z.heap.size → SameC H H' x) (hle : hp_Le H H') (n1 : H'.nx ≤ H.nx + 1) (n2 : H'.sl ≤ H.sl + 6) : JI z H' ad' am op sg aO aS mO mS a' ar bc ou (c + 1) (s + 6) := by
  obtain ⟨⟨wc, -, hc⟩, ⟨wr, er, hm⟩, -, hl⟩ := h
  obtain ⟨o1, o2, o3, o4, o5, o6, o7⟩ := hm.oux
  have hz : z.heap.size ≤ H.nx := by omega
  refine ⟨⟨w', e, hC.fr (fun x hx => f x (by omega) (by omega) (Or.inr hx)) (fun i hi => hle.2.2 _ ?_) (fun i hi => (hle.2.2 _ ?_).1)⟩, ⟨wr, ov_re (σ := H) o7.1 (fun i hi => ?_), hm.fr ⟨o7.1, fun i hi => ?_⟩ (hle.tag o1 (by decide)) (fun x h1 _ h2 h3 => f x h1 h2 h3) hle.1 n1 n2⟩, had, (hle.2.2 ou (by rw [o1]; decide)).2.trans hl⟩
  · rw [(hC.1.1.2 i hi).1]
    exact (show ∀ i, i < 21 → cw_tag i ≠ 0 by decide) i hi
  · rw [hC.opz hi]
    decide
  · have := f (am i) (o6 i hi).2.1 (o6 i hi).2.2 (Or.inl (o6 i hi).1)
    rw [er] at this
    exact this
  · have := f (am i) (o6 i hi).2.1 (o6 i hi).2.2 (Or.inl (o6 i hi).1)
    exact ⟨this.1.trans (o7.2 i hi).1, this.2.1.trans (o7.2 i hi).2.1, (o7.2 i hi).2.2⟩
/-- the reference has gone on -/
theorem JI.ref {σ' : Hp} {w' : Wd} {c' s' : Nat} (h : JI z H ad am op sg aO aS mO mS ac ar bc ou c s) (hm' : MI z σ' am w' a' bc ou c' s') (f : ∀ x, x < bc ∨ x = ou → SameC H σ' x) : JI z (ov σ' am 7 w') ad am op sg aO aS mO mS ac a' bc ou c' s' ∧ (∀ x, x < bc ∨ x = ou → SameC H (ov σ' am 7 w') x) := by
  obtain ⟨⟨wc, ec, hc⟩, -, had, hl⟩ := h
  obtain ⟨o1, o2, o3, o4, o5, o6, o7⟩ := hm'.oux
  have f2 : ∀ x, x < bc ∨ x = ou → SameC H (ov σ' am 7 w') x := fun x hx => (f x hx).trans (sc_ovn (fun i hi e => by
    rcases hx with q | q
    · have := (o6 i hi).1; omega
    · exact (o6 i hi).2.2 (e.symm.trans q)))
  refine ⟨⟨⟨wc, ov_reN (σ := H) hc.1.1.1 (fun i hi => ?_), hc.fr (fun x hx => f2 x (Or.inl (by omega))) (fun i hi => ⟨(f2 _ (Or.inl (had i hi))).1, (f2 _ (Or.inl (had i hi))).2.1⟩) (fun i hi => ?_)⟩, ⟨w', ov_reN (σ := σ') o7.1 (fun i _ => SameC.rfl' _ _), ?_⟩, had, (f2 ou (Or.inr rfl)).2.1.trans hl⟩, f2⟩
  · have := f2 (ad i) (Or.inl (had i hi))
    rw [ec] at this
    exact this
  · exact (f2 _ (Or.inl (Nat.lt_of_lt_of_le (hc.opO hi) o3))).1
  · exact hm'.fr (dc := 0) (ds := 0) o7 o1 (fun x _ h2 _ _ => sc_ovn (fun i hi => h2 i hi)) (Nat.le_refl _) (Nat.le_refl _) (Nat.le_refl _)
end Joint
