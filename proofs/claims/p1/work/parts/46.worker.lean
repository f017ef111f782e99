/-! ===== the worker's loop ===== -/
/-- only the slots' rows and the worker's numbers have changed -/
def KF (w w' : Wd) : Prop := (∀ i f, ¬ (i = 20 ∧ (f = 37 ∨ f = 38)) → w'.I i f = w.I i f) ∧ w'.J = w.J ∧ w'.A = w.A ∧ (∀ i, i ≠ 4 → i ≠ 6 → i ≠ 7 → w'.eI i = w.eI i) ∧ (∀ i, i ≠ 5 → w'.eJ i = w.eJ i) ∧ w'.eA = w.eA
theorem SF.kf {w w' : Wd} (h : SF w w') : KF w w' := by
  obtain ⟨p1, p2, p3, p4, p5, p6⟩ := h.parts
  exact ⟨fun i f _ => by rw [p1], p2, p3, p4, p5, p6⟩
theorem KF.refl (w : Wd) : KF w w := (SF.refl w).kf
theorem KF.trans {a b c : Wd} (h : KF a b) (k : KF b c) : KF a c :=
  ⟨fun i f q => (k.1 i f q).trans (h.1 i f q), k.2.1.trans h.2.1, k.2.2.1.trans h.2.2.1, fun i a1 a2 a3 => (k.2.2.2.1 i a1 a2 a3).trans (h.2.2.2.1 i a1 a2 a3), fun i a1 => (k.2.2.2.2.1 i a1).trans (h.2.2.2.2.1 i a1), k.2.2.2.2.2.trans h.2.2.2.2.2⟩
theorem kf_t (w : Wd) (v : Int32) : KF w (w.setI 20 37 v) := ⟨fun i f q => (up22_eq _ _ _ _ _ _).trans (if_neg (fun e => q ⟨e.1, Or.inl e.2⟩)), rfl, rfl, fun _ _ _ _ => rfl, fun _ _ => rfl, rfl⟩
theorem kf_e (w : Wd) (v : Int32) : KF w (w.setI 20 38 v) := ⟨fun i f q => (up22_eq _ _ _ _ _ _).trans (if_neg (fun e => q ⟨e.1, Or.inr e.2⟩)), rfl, rfl, fun _ _ _ _ => rfl, fun _ _ => rfl, rfl⟩
theorem KF.link {w w' : Wd} {ad : Nat → Nat} (h : KF w w') (hl : CLk w ad) : CLk w' ad := fun q hq => by rw [h.2.2.1]; exact hl q hq
/-- what the worker holds: the store, the top, the error -/
def KS (w : Wd) (S : Nat → Va) (t : Nat) (e : Int32) : Prop := SLS w S ∧ w.I 20 37 = nI t ∧ w.I 20 38 = e
theorem KS.sf {w w' : Wd} {S S' : Nat → Va} {t : Nat} {e : Int32} (h : KS w S t e) (hf : SF w w') (hS : SLS w' S') : KS w' S' t e := ⟨hS, by rw [hf.parts.1]; exact h.2.1, by rw [hf.parts.1]; exact h.2.2⟩
theorem KS.top {w : Wd} {S : Nat → Va} {t t' : Nat} {e : Int32} (h : KS w S t e) : KS (w.setI 20 37 (nI t')) S t' e := ⟨h.1, rfl, h.2.2⟩
theorem KS.err {w : Wd} {S : Nat → Va} {t : Nat} {e : Int32} (h : KS w S t e) (e' : Int32) : KS (w.setI 20 38 e') S t e' := ⟨h.1, h.2.1, rfl⟩
theorem k_push {t : Nat} (h : t < 250) : (if 250 < nI t + 1 then 250 else nI t + 1) = nI (t + 1) := by
  rw [nI_1, show (250 : Int32) = nI 250 from rfl, if_neg (nI_nlt (by omega) (by omega))]
theorem k_drop {t n : Nat} (h : n + 8 ≤ t) (ht : t < 2 ^ 30) : (if nI t - nI n < 8 then 8 else nI t - nI n) = nI (t - n) := by
  rw [pk_sub (by omega), show (8 : Int32) = nI 8 from rfl, if_neg (nI_nlt (by omega) (by omega))]
theorem k_bot {t n : Nat} (h : n + 8 ≤ t) (ht : t < 2 ^ 30) : (if nI t - nI n + 1 < 9 then 9 else nI t - nI n + 1) = nI (t - n + 1) := by
  rw [pk_sub (by omega), nI_1, show (9 : Int32) = nI 9 from rfl, if_neg (nI_nlt (by omega) (by omega))]
/-- the steps of the program -/
def RO (w : Wd) (op ko : Nat → Nat) : Prop := ∀ j, j < 1000 → w.eA 9 j = some (op (ko j)) ∧ ko j < 43
theorem KF.ro {w w' : Wd} {op ko : Nat → Nat} (h : KF w w') (hr : RO w op ko) : RO w' op ko := fun j hj => by rw [h.2.2.2.2.2]; exact hr j hj
section ClWorker
variable {z : State} {l : Launch} {d : Nat} {σ : Hp} {ad : Nat → Nat} {w : Wd} {S : Nat → Va} {Q : Outcome → Hp → Prop} {op sg : Nat → Nat} {aO aS mO mS : Nat} {ko : Nat → Nat}
/-- the head of the worker's loop -/
def HD (z : State) (l : Launch) (d : Nat) (σ : Hp) (ad : Nat → Nat) (Q : Outcome → Hp → Prop) (w : Wd) (at_ : Nat) : Prop := Go z l mt_K_run (d + 20) 13 [.ref (ad 20), .ref (ad 8), .int (nI at_), .retAddr 0, .retAddr 0, .retAddr 0] [] (ov σ ad 21 w) Q
theorem kh_end {at_ len : Nat} (hc : CW z σ ad) (hs : gj_St z op sg aO aS mO mS) (hl : CLk w ad) (hro : RO w op ko) (hlen : w.I 8 19 = nI len) (hle : len ≤ 1000) (hat : len ≤ at_) (ha : at_ ≤ 1000) (k : Q (.returned (some (.int (w.I 20 38)))) (ov σ ad 21 w)) : HD z l d σ ad Q w at_ := by
  have q : w.I 8 19 ≤ nI at_ := by rw [hlen]; exact nI_le hat (by omega)
  exact cs_K_run_13 (d := d + 11) (ko9 := ko) hc hs hl hro (fun _ => k) (fun _ _ => k) (fun h => absurd q h) (fun h => absurd q h) (fun h => absurd q h) (fun h => absurd q h) (fun h => absurd q h)
theorem kh_err {at_ : Nat} (hc : CW z σ ad) (hs : gj_St z op sg aO aS mO mS) (hl : CLk w ad) (hro : RO w op ko) (he : ¬ w.I 20 38 = 0) (k : Q (.returned (some (.int (w.I 20 38)))) (ov σ ad 21 w)) : HD z l d σ ad Q w at_ :=
  cs_K_run_13 (d := d + 11) (ko9 := ko) hc hs hl hro (fun _ => k) (fun _ _ => k) (fun _ h => absurd h he) (fun _ h => absurd h he) (fun _ h => absurd h he) (fun _ h => absurd h he) (fun _ h => absurd h he)
theorem kh_jump {at_ len o tg : Nat} {a : Int64} (hc : CW z σ ad) (hs : gj_St z op sg aO aS mO mS) (hl : CLk w ad) (hro : RO w op ko) (hlen : w.I 8 19 = nI len) (hle : len ≤ 1000) (hat : at_ < len) (he : w.I 20 38 = 0) (ho : ko at_ = o) (h1 : op_strict.getD o 0 = 0) (h2 : op_closing.getD o 0 = 0) (ha : w.eJ 10 at_ = a)
    (k : ∀ Q' : Outcome → Hp → Prop, (∀ w', HD z l d σ ad Q w' (at_ + 1) → Q' (.returned (some (.int 0))) (ov σ ad 21 w')) → (∀ w', a.toInt32 = nI tg → at_ ≤ tg → tg ≤ 1000 → HD z l d σ ad Q w' (tg + 1) → Q' (.returned (some (.int 1))) (ov σ ad 21 w')) →
      Go z l mt_K_jumps (d + 19) 0 [.ref (ad 20), .ref (op o), .ref (ad 8), .long a, .retAddr 0] [] (ov σ ad 21 w) Q') : HD z l d σ ad Q w at_ := by
  have q : ¬ w.I 8 19 ≤ nI at_ := by rw [hlen]; exact nI_ge hat (by omega)
  have en : (nI at_).toNatClampNeg = at_ := nI_clamp (by omega)
  have vi : vp_in (nI at_) 1000 := vp_in_nI (by omega) (by omega)
  refine cs_K_run_13 (d := d + 11) (ko9 := ko) hc hs hl hro (fun h => absurd h q) (fun _ h => absurd he h) (fun _ _ => vi) (fun _ _ => vi) (fun _ _ _ _ => ?_) (fun _ _ _ h => absurd (by rw [en, ho]; exact h2) h) (fun _ _ h => absurd (by rw [en, ho]; exact h1) h)
  rw [en, ho, ha]
  refine k _ (fun w' hk _ => gj_nextI (cs_K_run_84 (d := d + 11) (v3 := o) hc hs (fun _ => ?_) (fun h => absurd rfl h))) (fun w' e1 e2 e3 hk _ => gj_nextI (cs_K_run_84 (d := d + 11) (v3 := o) hc hs (fun h => absurd h (by decide)) (fun _ => ?_)))
  · rw [nI_1]
    exact go_drop 3 (go_drop 4 hk)
  · rw [e1]
    have e5 : (if nI at_ < nI tg then nI tg else nI at_) = nI tg := by
      by_cases h : at_ < tg
      · rw [if_pos (nI_lt h (by omega))]
      · rw [if_neg (nI_nlt (by omega) (by omega)), show at_ = tg by omega]
    rw [e5, nI_1]
    exact go_drop 3 (go_drop 4 hk)
theorem kh_close {at_ len o : Nat} (hc : CW z σ ad) (hs : gj_St z op sg aO aS mO mS) (hl : CLk w ad) (hro : RO w op ko) (hlen : w.I 8 19 = nI len) (hle : len ≤ 1000) (hat : at_ < len) (he : w.I 20 38 = 0) (ho : ko at_ = o) (h1 : op_strict.getD o 0 = 0) (h2 : ¬ op_closing.getD o 0 = 0)
    (k : ∀ Q' : Outcome → Hp → Prop, (∀ w', HD z l d σ ad Q w' (at_ + 1) → Q' (.returned none) (ov σ ad 21 w')) → Go z l mt_K_close (d + 19) 0 [.ref (ad 20), .ref (op o), .retAddr 0] [] (ov σ ad 21 w) Q') : HD z l d σ ad Q w at_ := by
  have q : ¬ w.I 8 19 ≤ nI at_ := by rw [hlen]; exact nI_ge hat (by omega)
  have en : (nI at_).toNatClampNeg = at_ := nI_clamp (by omega)
  have vi : vp_in (nI at_) 1000 := vp_in_nI (by omega) (by omega)
  refine cs_K_run_13 (d := d + 11) (ko9 := ko) hc hs hl hro (fun h => absurd h q) (fun _ h => absurd he h) (fun _ _ => vi) (fun _ _ => vi) (fun _ _ _ h => absurd (by rw [en, ho] at h; exact h) h2) (fun _ _ _ _ => ?_) (fun _ _ h => absurd (by rw [en, ho]; exact h1) h)
  rw [en, ho]
  refine k _ (fun w' hk _ => gj_nextV (cs_K_run_73 (d := d + 11) (v3 := o) hc hs ?_))
  rw [nI_1]
  exact go_drop 3 (go_drop 4 hk)
theorem kh_strict {at_ len o : Nat} {a : Int64} (hc : CW z σ ad) (hs : gj_St z op sg aO aS mO mS) (hl : CLk w ad) (hro : RO w op ko) (hlen : w.I 8 19 = nI len) (hle : len ≤ 1000) (hat : at_ < len) (he : w.I 20 38 = 0) (ho : ko at_ = o) (h1 : ¬ op_strict.getD o 0 = 0) (ha : w.eJ 10 at_ = a)
    (k : ∀ Q' : Outcome → Hp → Prop, (∀ w', HD z l d σ ad Q w' (at_ + 1) → Q' (.returned none) (ov σ ad 21 w')) → Go z l mt_K_closeStrict (d + 19) 0 [.ref (ad 20), .ref (op o), .int a.toInt32, .retAddr 0, .retAddr 0, .retAddr 0] [] (ov σ ad 21 w) Q') : HD z l d σ ad Q w at_ := by
  have q : ¬ w.I 8 19 ≤ nI at_ := by rw [hlen]; exact nI_ge hat (by omega)
  have en : (nI at_).toNatClampNeg = at_ := nI_clamp (by omega)
  have vi : vp_in (nI at_) 1000 := vp_in_nI (by omega) (by omega)
  refine cs_K_run_13 (d := d + 11) (ko9 := ko) hc hs hl hro (fun h => absurd h q) (fun _ h => absurd he h) (fun _ _ => vi) (fun _ _ => vi) (fun _ _ h => absurd (by rw [en, ho] at h; exact h) h1) (fun _ _ h => absurd (by rw [en, ho] at h; exact h) h1) (fun _ _ _ => ?_)
  rw [en, ho, ha]
  refine k _ (fun w' hk _ => gj_nextV (cs_K_run_58 (d := d + 11) (v3 := o) hc hs ?_))
  rw [nI_1]
  exact go_drop 3 (go_drop 4 hk)
end ClWorker
