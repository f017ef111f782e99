/-! ===== the reference's calls: set, keep, value, text ===== -/
theorem not_r9 {x1 : Int32} (hb : ¬ (¬ x1 < 0 ∧ ¬ 8 ≤ x1)) : x1 < 0 ∨ 8 ≤ x1 := by
  by_cases q : x1 < 0
  · exact Or.inl q
  · by_cases q2 : 8 ≤ x1
    · exact Or.inr q2
    · exact absurd ⟨q, q2⟩ hb
section MApi2
variable {z : State} {l : Launch} {d : Nat} {σ : Hp} {am : Nat → Nat} {w : Wd} {a : Ab} {bc ou c s : Nat} {Q : Outcome → Hp → Prop}
theorem ma_set {x1 : Int32} {x2 : Int64} (h : MI z σ am w a bc ou c s) (ha : ∀ r, r < 8 → a.kn r = 0 ∨ a.kn r = 1 ∨ a.kn r = 2) (k : MQr z am bc ou σ (sp_set x1 x2 a).2 c s (sp_set x1 x2 a).1 Q none) : Go z l mt_M_set (d + 9) 0 [.ref (am 0), .int x1, .long x2, .retAddr 0] [] (ov σ am 7 w) Q := by
  obtain ⟨n1, n2, n3, n4, n5⟩ := h.num
  have no : ¬ (0 ≤ x1 ∧ x1 ≤ 7 ∧ sp_fits_n (a.kn x1.toNatClampNeg) x2) → Q (.returned none) (ov σ am 7 (w.setI 0 62 1)) := fun e => by
    rw [show sp_set x1 x2 a = (1, a) from if_neg e] at k
    exact k.now (h.code 1) rfl rfl
  by_cases hb : ¬ x1 < 0 ∧ ¬ 8 ≤ x1
  · obtain ⟨j, hj, rfl⟩ := r9 hb.1 hb.2
    have hcj : (nI j).toNatClampNeg = j := nI_clamp (by omega)
    obtain ⟨v, t, V, hT, v1, t1, e3, -, up⟩ := h.up (i := j) (by omega)
    have ea : w.eA 3 (nI j).toNatClampNeg = some v := by rw [hcj]; exact e3 hj
    have in8 : vp_in (nI j) 8 := vp_in_nI hj (by omega)
    have e4 : w.eI 4 (nI j).toNatClampNeg = mty (a.kn j) := by rw [hcj]; exact n3 j hj
    have hj7 : nI j ≤ 7 := show nI j ≤ nI 7 from nI_le (by omega) (by omega)
    have yes : sp_fits_n (a.kn j) x2 → Q (.returned none) (ov (((σ.setI 70 v (w.eI 4 (nI j).toNatClampNeg)).setJ 71 v x2).setI 72 v 0) am 7 (w.setI 0 62 0)) := fun ef => by
      rw [show sp_set (nI j) x2 a = (0, (a.T, a.n, a.kn, va_up a.R (nI j).toNatClampNeg (a.kn (nI j).toNatClampNeg, x2, []), a.2.2.2.2)) from if_pos ⟨i32_pos hb.1, hj7, by rw [hcj]; exact ef⟩, hcj] at k
      rw [e4]
      have V' : VM (((σ.setI 70 v (mty (a.kn j))).setJ 71 v x2).setI 72 v 0) am v (a.kn j, x2, []) := by
        obtain ⟨m1, m2, m3, m, m4, m5, t9, m6, m7, m8, m9, m10⟩ := V
        refine ⟨m1, (Hp.sI_nf _ _ _ _ (by decide)).trans (show (σ.setI 70 v (mty (a.kn j))).I 70 v = mty (a.kn j) from Hp.sI _ _ _ _), fun _ => Hp.sJ _ _ _ _, 0, Nat.zero_le _, Hp.sI _ _ _ _, t9, m6, m7, m8, m9, fun e => ?_⟩
        have e9 : a.kn j = 1 := e
        rcases ef with f | f
        · exact absurd (f.1.symm.trans e9) (by decide)
        · exact absurd (f.1.symm.trans e9) (by decide)
      refine k _ _ (up _ _ _ _ c s ⟨h.cm.1, fun i hi => h.cm.2 i hi⟩ (fun y h1 _ => ((SameC.setI h1).trans (SameC.setJ h1)).trans (SameC.setI h1)) rfl rfl V' hT rfl rfl rfl (fun r hr => ?_) ?_ rfl ⟨n1, n2, n3, n4, n5⟩ (Nat.le_refl _) (Nat.le_refl _)) (fun x hx => ((SameC.setI (by omega)).trans (SameC.setJ (by omega))).trans (SameC.setI (by omega))) (Nat.le_refl _) rfl
      · show va_up a.R j _ r = _
        unfold va_up
        rfl
      · rw [if_neg (by omega)]; rfl
    have nf : ¬ sp_fits_n (a.kn j) x2 → Q (.returned none) (ov σ am 7 (w.setI 0 62 1)) := fun ef => no (fun q => ef (by have := q.2.2; rw [hcj] at this; exact this))
    have k0 : mty (a.kn j) = 20 ↔ a.kn j = 0 := by rcases ha j hj with e | e | e <;> rw [e] <;> decide
    have k2 : mty (a.kn j) = 16 ↔ a.kn j = 2 := by rcases ha j hj with e | e | e <;> rw [e] <;> decide
    refine cm_M_set (d := d) (b2 := v) (b6 := v) (b10 := v) h.cm h.lk V.1 v1.2 V.1 v1.2 V.1 v1.2 (fun e => absurd e hb.1) (fun _ e => absurd e hb.2) (fun _ _ => in8) (fun _ _ e1 e2 => nf (fun q => ?_)) (fun _ _ _ _ _ => ea) (fun _ _ e1 e2 e3 => yes ?_) (fun _ _ e1 e2 e3 e5 => nf (fun q => ?_)) (fun _ _ _ _ _ _ => ea) (fun _ _ e1 e2 e3 e5 => yes ?_) (fun _ _ e1 e2 => nf (fun q => ?_)) (fun _ _ e1 e2 e3 => nf (fun q => ?_)) (fun _ _ _ _ _ => ea) (fun _ _ e1 e2 e3 => yes ?_)
    · rw [e4] at e1 e2
      rcases q with f | f
      · exact e1 (k0.mpr f.1)
      · exact e2 (k2.mpr f.1)
    · rw [e4] at e2
      exact Or.inr ⟨k2.mp e2, Or.inl (lgc_eq0.mp e3)⟩
    · rw [e4] at e1 e2
      rcases q with f | f
      · exact e1 (k0.mpr f.1)
      · exact f.2.elim (fun r => e3 (lgc_eq0.mpr r)) (fun r => e5 (lgc_eq0.mpr r))
    · rw [e4] at e2
      exact Or.inr ⟨k2.mp e2, Or.inr (lgc_eq0.mp e5)⟩
    · rw [e4] at e1
      have l9 := lgc_gt0.mp e2
      have e9 : (9007199254740991 : Int64).toInt = 9007199254740991 := rfl
      rcases q with f | f
      · omega
      · exact absurd ((k0.mp e1).symm.trans f.1) (by decide)
    · rw [e4] at e1
      have l9 := lgc_lt0.mp e3
      have e9 : (-9007199254740991 : Int64).toInt = -9007199254740991 := rfl
      rcases q with f | f
      · omega
      · exact absurd ((k0.mp e1).symm.trans f.1) (by decide)
    · rw [e4] at e1
      have l8 : ¬ (9007199254740991 : Int64).toInt < x2.toInt := fun r => e2 (lgc_gt0.mpr r)
      have l9 : ¬ x2.toInt < (-9007199254740991 : Int64).toInt := fun r => e3 (lgc_lt0.mpr r)
      have e8 : (9007199254740991 : Int64).toInt = 9007199254740991 := rfl
      have e9 : (-9007199254740991 : Int64).toInt = -9007199254740991 := rfl
      exact Or.inl ⟨k0.mp e1, by omega, by omega⟩
  · have hb' := not_r9 hb
    have n9 := no (fun q => r9_no hb' ⟨q.1, q.2.1⟩)
    obtain ⟨v, t, V, hT, v1, t1, e3, -, up⟩ := h.up (i := 0) (by decide)
    exact cm_M_set (d := d) (b2 := v) (b6 := v) (b10 := v) h.cm h.lk V.1 v1.2 V.1 v1.2 V.1 v1.2 (fun _ => n9) (fun _ _ => n9) (fun e1 e2 => absurd ⟨e1, e2⟩ hb) (fun e1 e2 => absurd ⟨e1, e2⟩ hb) (fun e1 e2 => absurd ⟨e1, e2⟩ hb) (fun e1 e2 => absurd ⟨e1, e2⟩ hb) (fun e1 e2 => absurd ⟨e1, e2⟩ hb) (fun e1 e2 => absurd ⟨e1, e2⟩ hb) (fun e1 e2 => absurd ⟨e1, e2⟩ hb) (fun e1 e2 => absurd ⟨e1, e2⟩ hb) (fun e1 e2 => absurd ⟨e1, e2⟩ hb) (fun e1 e2 => absurd ⟨e1, e2⟩ hb) (fun e1 e2 => absurd ⟨e1, e2⟩ hb)
/-- a value takes another one -/
theorem mo_take {o v t r : Nat} {x : Va} (hc : CM z σ am) (ho : σ.tag o = 10) (hot : σ.A 73 o = some t) (ht : σ.tag t = 21) (htm : mx am t) (htl : σ.len t = 40) (zo : z.heap.size ≤ o) (zt : z.heap.size ≤ t) (V : VM σ am v x) (hr : σ.A 73 v = some r) (ox : v_ok x)
    (k : ∀ σ', CM z σ' am → (∀ y, y ≠ o → y ≠ t → SameC σ σ' y) → σ'.nx = σ.nx → σ'.sl = σ.sl → VM σ' am o x → σ'.A 73 o = some t → Q (.returned none) (ov σ' am 7 w)) : Go z l mt_V_take (d + 9) 0 [.ref o, .ref v, .retAddr 0] [] (ov σ am 7 w) Q := by
  obtain ⟨r1, r2, r3⟩ := V.txt hr
  obtain ⟨m1, m2, m3, m, m4, m5, r9, m6, m7, m8, m9, m10⟩ := id V
  obtain rfl : r9 = r := Option.some.inj (m6.symm.trans hr)
  have loop : ∀ (p i : Nat) (τ : Hp), i + p = m → CM z τ am → (∀ y, y ≠ o → y ≠ t → SameC σ τ y) → τ.nx = σ.nx → τ.sl = σ.sl → (∀ y, τ.tag y = σ.tag y ∧ τ.len y = σ.len y ∧ τ.A 73 y = σ.A 73 y) → τ.I 70 o = mty x.1 → ((x.1 = 0 ∨ x.1 = 2) → τ.J 71 o = x.2.1) → τ.I 72 o = nI m → (∀ j, j < i → τ.eI t j = σ.eI r9 j) → (∀ j, i ≤ j → τ.eI r9 j = σ.eI r9 j) → Go z l mt_V_take (d + 9) 26 [.ref o, .ref v, .int (nI i)] [] (ov τ am 7 w) Q := by
    intro p
    induction p with
    | zero =>
      intro i τ hi hc9 f e1 e2 tg i70 j71 i72 d1 d2
      have cc : τ.I 72 o ≤ nI i := by rw [i72]; exact nI_le (by omega) (by omega)
      have V' : VM τ am o x := ⟨(tg o).1.trans ho, i70, j71, m, m4, i72, t, (tg o).2.2.trans hot, (tg t).1.trans ht, htm, (tg t).2.1.trans htl, fun e => ⟨(m10 e).1, fun j hj => (d1 j (by omega)).trans ((m10 e).2 j hj)⟩⟩
      exact cm_V_take_26 (d := d) (b2 := t) (b5 := r9) hc9 ((tg o).1.trans ho) ((tg v).1.trans m1) m8 ((tg r9).1.trans m7) htm ((tg t).1.trans ht) zt (fun _ => k τ hc9 f e1 e2 V' ((tg o).2.2.trans hot)) (fun q9 => absurd cc q9) (fun q9 => absurd cc q9) (fun q9 => absurd cc q9) (fun q9 => absurd cc q9) (fun q9 => absurd cc q9)
    | succ p ih =>
      intro i τ hi hc9 f e1 e2 tg i70 j71 i72 d1 d2
      have cc : ¬ τ.I 72 o ≤ nI i := by rw [i72]; exact nI_ge (by omega) (by omega)
      have ei : (nI i).toNatClampNeg = i := nI_clamp (by omega)
      refine go_wf fun hwf => cm_V_take_26 (d := d) (b2 := t) (b5 := r9) hc9 ((tg o).1.trans ho) ((tg v).1.trans m1) m8 ((tg r9).1.trans m7) htm ((tg t).1.trans ht) zt (fun q9 => absurd q9 cc) (fun _ => (tg o).2.2.trans hot) (fun _ => (tg v).2.2.trans m6) (fun _ => by rw [(tg r9).2.1, m9]; exact vp_in_nI (by omega) (by omega)) (fun _ => by rw [(tg t).2.1, htl]; exact vp_in_nI (by omega) (by omega)) (fun _ => ?_)
      rw [ei, nI_1]
      have hB : isB (τ.eI r9 i) := by
        have := hwf.2 r9 ((tg r9).1.trans m7) i
        rw [nn_eI m8] at this
        exact this
      have eB : vp_nar .byte (τ.eI r9 i) = τ.eI r9 i := hB.symm
      rw [eB]
      refine ih (i + 1) _ (by omega) ⟨hc9.1, fun j hj => hc9.2 j hj⟩ (fun y h1 h2 => (f y h1 h2).trans (SameC.rowI h2)) e1 e2 tg i70 j71 i72 (fun j hj => ?_) (fun j hj => ?_)
      · show va_up τ.eI t (va_up (τ.eI t) i (τ.eI r9 i)) t j = _
        rw [hp_up_same]
        by_cases e : j = i
        · rw [e, hp_up_same]; exact d2 i (Nat.le_refl _)
        · rw [hp_up_ne _ _ e]; exact d1 j (by omega)
      · show va_up τ.eI t (va_up (τ.eI t) i (τ.eI r9 i)) r9 j = _
        by_cases e : r9 = t
        · rw [e, hp_up_same, hp_up_ne _ _ (by omega), ← e]; exact d2 j (by omega)
        · rw [hp_up_ne _ _ e]; exact d2 j (by omega)
  refine cm_V_take (d := d) hc m1 ho zo ?_
  have sc : ∀ y, y ≠ o → SameC σ (((σ.setI 70 o (σ.I 70 v)).setJ 71 o (σ.J 71 v)).setI 72 o (σ.I 72 v)) y := fun y h1 => ((SameC.setI h1).trans (SameC.setJ h1)).trans (SameC.setI h1)
  refine loop m 0 _ (Nat.zero_add _) ⟨hc.1, fun j hj => hc.2 j hj⟩ (fun y h1 _ => sc y h1) rfl rfl (fun y => ⟨rfl, rfl, rfl⟩) ?_ (fun e => ?_) ?_ (fun j hj => absurd hj (Nat.not_lt_zero _)) (fun j _ => rfl)
  · exact ((Hp.sI_nf _ _ _ _ (by decide)).trans (show (σ.setI 70 o (σ.I 70 v)).I 70 o = σ.I 70 v from Hp.sI _ _ _ _)).trans m2
  · exact (Hp.sJ _ _ _ _).trans (m3 e)
  · exact (Hp.sI _ _ _ _).trans m5
theorem ma_keep {x1 : Int32} (h : MI z σ am w a bc ou c s) (ha : a.ok) (k : MQr z am bc ou σ (sp_keep x1 a).2.2 c s (sp_keep x1 a).1 Q (some (.int (sp_keep x1 a).2.1))) : Go z l mt_M_keep (d + 10) 0 [.ref (am 0), .int x1] [] (ov σ am 7 w) Q := by
  obtain ⟨n1, n2, n3, n4, n5⟩ := h.num
  have no : ¬ (0 ≤ x1 ∧ x1 ≤ 7) → Q (.returned (some (.int 0))) (ov σ am 7 (w.setI 0 62 1)) := fun e => by
    rw [show sp_keep x1 a = (1, 0, a) from if_neg e] at k
    exact k.now (h.code 1) rfl rfl
  obtain ⟨hv, ht, HV, hHT, hv1, ht1, -, h59, -⟩ := h.up (i := 8) (by decide)
  have HV' : VM σ am hv a.hv := HV
  have t0 : σ.I 70 hv = 0 ↔ a.hv.1 = 3 := by rw [HV'.2.1]; exact mty_0 ha.2.2.1.k4
  by_cases hb : ¬ x1 < 0 ∧ ¬ 8 ≤ x1
  · obtain ⟨j, hj, rfl⟩ := r9 hb.1 hb.2
    have hcj : (nI j).toNatClampNeg = j := nI_clamp (by omega)
    obtain ⟨v, t, V, hT, v1, t1, e3, -, up⟩ := h.up (i := j) (by omega)
    obtain ⟨g1, g2, g3⟩ := V.txt hT
    have ea : w.eA 3 (nI j).toNatClampNeg = some v := by rw [hcj]; exact e3 hj
    have in8 : vp_in (nI j) 8 := vp_in_nI hj (by omega)
    have e4 : w.eI 4 (nI j).toNatClampNeg = mty (a.kn j) := by rw [hcj]; exact n3 j hj
    have hj7 : nI j ≤ 7 := show nI j ≤ nI 7 from nI_le (by omega) (by omega)
    have teq : σ.I 70 hv = w.eI 4 (nI j).toNatClampNeg ↔ a.hv.1 = a.kn j := by
      rw [e4, HV'.2.1]
      exact mty_inj ha.2.2.1.k4 (by rcases (ha.2.1 j hj).1 with e | e | e <;> rw [e] <;> decide)
    have e0 : sp_keep (nI j) a = if ¬ a.hv.1 = 3 ∧ ¬ a.hv.1 = a.kn j then (0, 0, a) else (0, 1, (a.T, a.n, a.kn, va_up a.R j a.hv, a.2.2.2.2)) := by
      have := show sp_keep (nI j) a = _ from if_pos ⟨i32_pos hb.1, hj7⟩
      rw [hcj] at this
      exact this
    have take : ¬ (¬ a.hv.1 = 3 ∧ ¬ a.hv.1 = a.kn j) → Go z l mt_V_take (d + 1 + 8) 0 [.ref v, .ref hv, .retAddr 0] [] (ov σ am 7 (w.setI 0 62 0)) (fun o σ1 => hp_Le (ov σ am 7 (w.setI 0 62 0)) σ1 → gj_next z l mt_M_keep (d + 1 + 9) 52 [.ref (am 0), .int (nI j)] [] Q o σ1) := fun en => by
      rw [e0, if_neg en] at k
      refine mo_take (d := d) h.cm V.1 hT g1 g2 g3 v1.2 t1.2 HV' hHT ha.2.2.1 (fun σ' c' f' e1 e2 V' hT' _ => gj_nextV (cm_M_keep_55 (d := d + 1) c' ?_))
      refine k σ' _ (up σ' _ _ a.hv c s c' f' e1 e2 V' hT' rfl rfl rfl (fun r hr => ?_) ?_ rfl ⟨n1, n2, n3, n4, n5⟩ (Nat.le_refl _) (Nat.le_refl _)) (fun x hx => f' x (by omega) (by omega)) (by omega) rfl
      · show va_up a.R j _ r = _
        unfold va_up
        rfl
      · rw [if_neg (by omega)]; rfl
    refine cm_M_keep (d := d + 1) (b1 := hv) (b5 := v) (b9 := v) h.cm h.lk HV.1 V.1 V.1 (fun e => absurd e hb.1) (fun _ e => absurd e hb.2) (fun _ _ => h59 rfl) (fun _ _ _ => in8) (fun _ _ _ => ea) (fun _ _ e => take (fun q => q.1 (t0.mp e))) (fun _ _ _ => in8) (fun _ _ _ _ => ea) (fun _ _ _ e => take (fun q => q.2 (teq.mp e))) (fun _ _ e1 e2 => ?_)
    rw [e0, if_pos ⟨fun q => e1 (t0.mpr q), fun q => e2 (teq.mpr q)⟩] at k
    exact k.now (h.code 0) rfl rfl
  · have hb' := not_r9 hb
    have n9 := no (fun q => r9_no hb' q)
    exact cm_M_keep (d := d + 1) (b1 := hv) (b5 := hv) (b9 := hv) h.cm h.lk HV.1 HV.1 HV.1 (fun _ => n9) (fun _ _ => n9) (fun e1 e2 => absurd ⟨e1, e2⟩ hb) (fun e1 e2 => absurd ⟨e1, e2⟩ hb) (fun e1 e2 => absurd ⟨e1, e2⟩ hb) (fun e1 e2 => absurd ⟨e1, e2⟩ hb) (fun e1 e2 => absurd ⟨e1, e2⟩ hb) (fun e1 e2 => absurd ⟨e1, e2⟩ hb) (fun e1 e2 => absurd ⟨e1, e2⟩ hb) (fun e1 e2 => absurd ⟨e1, e2⟩ hb)
end MApi2
