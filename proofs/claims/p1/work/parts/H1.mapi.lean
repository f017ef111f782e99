/-! ===== the reference's calls: feed, end, clear, set, count ===== -/
/-- what a call must lead to -/
def MQr (z : State) (am : Nat → Nat) (bc ou : Nat) (σ : Hp) (a' : Ab) (c s code : Nat) (Q : Outcome → Hp → Prop) (ret : Option Value) : Prop := ∀ σ' w', MI z σ' am w' a' bc ou c s → (∀ x, x < bc ∨ x = ou → SameC σ σ' x) → σ.nx ≤ σ'.nx → w'.I 0 62 = nI code → Q (.returned ret) (ov σ' am 7 w')
section MApi
variable {z : State} {l : Launch} {d : Nat} {σ : Hp} {am : Nat → Nat} {w : Wd} {a : Ab} {bc ou c s : Nat} {Q : Outcome → Hp → Prop}
theorem MI.cm (h : MI z σ am w a bc ou c s) : CM z σ am := by
  obtain ⟨b0, vs, ts, S, q, sa, hM, -⟩ := h
  exact hM.1
theorem MI.lk (h : MI z σ am w a bc ou c s) : MLk w am := by
  obtain ⟨b0, vs, ts, S, q, sa, hM, -⟩ := h
  exact hM.2.1
theorem MI.num (h : MI z σ am w a bc ou c s) : MN w a := by
  obtain ⟨b0, vs, ts, S, q, sa, -, -, -, -, -, -, hN, -⟩ := h
  exact hN
theorem MI.code (h : MI z σ am w a bc ou c s) (v : Int32) : MI z σ am (w.setI 0 62 v) a bc ou c s := h.wd rfl rfl rfl rfl rfl rfl (show MN w a from h.num) (Nat.le_refl _) (Nat.le_refl _)
theorem MQr.now {a' : Ab} {code : Nat} {ret : Option Value} {w' : Wd} {v : Int32} (k : MQr z am bc ou σ a' c s code Q ret) (h : MI z σ am w' a' bc ou c s) (hv : w'.I 0 62 = v) (e : v = nI code) : Q (.returned ret) (ov σ am 7 w') := k σ w' h (fun x _ => SameC.rfl' σ x) (Nat.le_refl _) (hv.trans e)
theorem ma_count {x : Int32} (h : MI z σ am w a bc ou c s) (k : MQr z am bc ou σ a c s (sp_count x a).1 Q (some (.int (sp_count x a).2))) : Go z l mt_M_count (d + 9) 0 [.ref (am 0), .int x] [] (ov σ am 7 w) Q := by
  obtain ⟨n1, n2, n3, n4, n5⟩ := h.num
  have no : ¬ (0 ≤ x ∧ x ≤ 2) → Q (.returned (some (.int 0))) (ov σ am 7 (w.setI 0 62 1)) := fun e => by
    rw [show sp_count x a = (1, 0) from if_neg e] at k
    exact k.now (h.code 1) rfl rfl
  have yes : ¬ x < 0 → ¬ 2 < x → ∀ v, (if x = 0 then nI a.n else if x = 1 then a.pl else a.er) = v → Q (.returned (some (.int v))) (ov σ am 7 (w.setI 0 62 0)) := fun e1 e2 v ev => by
    have e : sp_count x a = (0, v) := (if_pos ⟨i32_pos e1, Int32.not_lt.mp e2⟩).trans (by rw [ev])
    rw [e] at k
    exact k.now (h.code 0) rfl rfl
  refine cm_M_count (d := d) h.cm (fun e => no (fun q => absurd e (Int32.not_lt.mpr q.1))) (fun _ e => no (fun q => absurd e (Int32.not_lt.mpr q.2))) (fun e1 e2 e3 e4 => yes e1 e2 _ ?_) (fun e1 e2 e3 e4 => yes e1 e2 _ ?_) (fun e1 e2 e3 => yes e1 e2 _ ?_)
  · rw [if_neg e3, if_neg e4]; exact n5.symm
  · rw [if_neg e3, if_pos e4]; exact n4.symm
  · rw [if_pos e3]; exact n1.symm
theorem ma_end {x : Int32} (h : MI z σ am w a bc ou c s) (ha : a.n ≤ 1000) (k : MQr z am bc ou σ (sp_end x a).2.2 c s (sp_end x a).1 Q (some (.int (sp_end x a).2.1))) : Go z l mt_M_end (d + 9) 0 [.ref (am 0), .int x] [] (ov σ am 7 w) Q := by
  obtain ⟨n1, n2, n3, n4, n5⟩ := h.num
  have no : ¬ (0 ≤ x ∧ x ≤ nI a.n) → Q (.returned (some (.int 0))) (ov σ am 7 (w.setI 0 62 1)) := fun e => by
    rw [show sp_end x a = (1, 0, a) from if_neg e] at k
    exact k.now (h.code 1) rfl rfl
  refine cm_M_end (d := d) h.cm (fun e => no (fun q => absurd e (Int32.not_lt.mpr q.1))) (fun _ e => no (fun q => absurd (by rw [n1] at e; exact e) (Int32.not_lt.mpr q.2))) (fun e1 e2 => ?_)
  rw [n1] at e2
  have e2' := Int32.not_lt.mp e2
  rw [show sp_end x a = (0, x, (a.T, x.toNatClampNeg, a.2.2)) from if_pos ⟨i32_pos e1, e2'⟩] at k
  obtain ⟨j, hj, rfl⟩ := nI_of e1
  have hjn := (nI_leI hj (by omega)).mp e2'
  have hc : (nI j).toNatClampNeg = j := nI_clamp hj
  refine k.now (w' := (w.setI 0 62 0).setI 0 55 (nI j)) (h.wd rfl rfl rfl rfl rfl rfl ⟨?_, n2, n3, n4, n5⟩ ?_ ?_) rfl rfl
  · show nI j = nI (nI j).toNatClampNeg
    rw [hc]
  · show c + 20 * (nI j).toNatClampNeg ≤ c + 20 * a.n
    rw [hc]; omega
  · show s + 360 * (nI j).toNatClampNeg ≤ s + 360 * a.n
    rw [hc]; omega
theorem mo_four {n : Nat} {v : Int32} (hc : CM z σ am) (hl : MLk w am) (hn : w.I 0 55 = nI n) (hn9 : n + 4 ≤ 1000) (k : Q (.returned none) (ov σ am 7 ((w.rowI 2 (sp_put4 (w.eI 2) n v)).setI 0 55 (nI (n + 4))))) : Go z l mt_M_four (d + 9) 0 [.ref (am 0), .int v, .retAddr 0] [] (ov σ am 7 w) Q := by
  have step : ∀ {w : Wd} {n : Nat} {s s' : Int32}, MLk w am → w.I 0 55 = nI n → n < 1000 → ¬ s < 0 → s + (-8) = s' → Go z l mt_M_four (d + 9) 3 [.ref (am 0), .int v, .int s'] [] (ov σ am 7 ((w.rowI 2 (va_up (w.eI 2) n (sp_by v s))).setI 0 55 (nI (n + 1)))) Q → Go z l mt_M_four (d + 9) 3 [.ref (am 0), .int v, .int s] [] (ov σ am 7 w) Q := fun {w n s s'} hl hn hn9 h0 hs k => by
    refine cm_M_four_3 (d := d) hc hl (fun h => absurd h h0) (fun _ => by rw [hn]; exact vp_in_nI hn9 (by omega)) (fun _ => ?_)
    rw [hn, nI_clamp (by omega), nI_1, hs]
    exact k
  refine cm_M_four (d := d) hc ?_
  refine step (s' := 16) hl hn (by omega) (by decide) (by decide) ?_
  refine step (n := n + 1) (s' := 8) hl rfl (by omega) (by decide) (by decide) ?_
  refine step (n := n + 2) (s' := 0) hl rfl (by omega) (by decide) (by decide) ?_
  refine step (n := n + 3) (s' := -8) hl rfl (by omega) (by decide) (by decide) ?_
  refine cm_M_four_3 (d := d) hc hl (fun _ => ?_) (fun h => absurd (by decide) h) (fun h => absurd (by decide) h)
  have e1 : ∀ (w : Wd) (f g : Nat → Int32) (u v : Int32), (((w.rowI 2 f).setI 0 55 u).rowI 2 g).setI 0 55 v = (w.rowI 2 g).setI 0 55 v := fun w f g u v => by
    rw [Wd.setI_rowI, Wd.setI_setI, Wd.rowI_rowI]
  have e2 : ∀ (w : Wd) (f : Nat → Int32) (u : Int32), ((w.rowI 2 f).setI 0 55 u).eI 2 = f := fun w f u => Wd.eI_rowI w 2 f
  rw [e1, e2, e1, e2, e1, e2]
  exact k
theorem ma_feed {x1 x2 x3 x4 x5 : Int32} (h : MI z σ am w a bc ou c s) (ha : a.n ≤ 1000) (k : MQr z am bc ou σ (sp_feed x1 x2 x3 x4 x5 a).2.2 (c + 400) (s + 7200) (sp_feed x1 x2 x3 x4 x5 a).1 Q (some (.int (sp_feed x1 x2 x3 x4 x5 a).2.1))) : Go z l mt_M_feed (d + 10) 0 [.ref (am 0), .int x1, .int x2, .int x3, .int x4, .int x5] [] (ov σ am 7 w) Q := by
  obtain ⟨n1, n2, n3, n4, n5⟩ := h.num
  have hc := h.cm
  have hl := h.lk
  have e20 : w.I 0 55 + 20 = nI (a.n + 20) := by rw [n1]; exact nI_add a.n 20
  have lt9 : 1000 < nI (a.n + 20) ↔ 1000 < a.n + 20 := by
    constructor
    · intro e
      rcases Nat.lt_or_ge 1000 (a.n + 20) with r | r
      · exact r
      · exact absurd (show nI 1000 < nI (a.n + 20) from e) (nI_nlt r (by omega))
    · exact fun e => show nI 1000 < nI (a.n + 20) from nI_lt e (by omega)
  refine cm_M_feed (d := d + 1) hc (fun e => ?_) (fun e => ?_)
  · rw [e20] at e
    rw [show sp_feed x1 x2 x3 x4 x5 a = (1, 0, a) from if_neg (by have := lt9.mp e; omega)] at k
    exact k.now ((h.code 1).wd rfl rfl rfl rfl rfl rfl (h.code 1).num (by show c + 20 * a.n ≤ c + 400 + 20 * a.n; omega) (by show s + 360 * a.n ≤ s + 7200 + 360 * a.n; omega)) rfl rfl
  · rw [e20] at e
    have h' : a.n + 20 ≤ 1000 := by
      rcases Nat.lt_or_ge 1000 (a.n + 20) with r | r
      · exact absurd (lt9.mpr r) e
      · exact r
    rw [show sp_feed x1 x2 x3 x4 x5 a = (0, nI (a.n + 20), (sp_put4 (sp_put4 (sp_put4 (sp_put4 (sp_put4 a.T a.n x1) (a.n + 4) x2) (a.n + 8) x3) (a.n + 12) x4) (a.n + 16) x5, a.n + 20, a.2.2)) from if_pos h'] at k
    refine mo_four (d := d) hc hl (show (w.setI 0 62 0).I 0 55 = nI a.n from n1) (by omega) (fun _ => gj_nextV (cm_M_feed_33 (d := d + 1) hc ?_))
    refine mo_four (d := d) (n := a.n + 4) hc hl rfl (by omega) (fun _ => gj_nextV (cm_M_feed_38 (d := d + 1) hc ?_))
    refine mo_four (d := d) (n := a.n + 8) hc hl rfl (by omega) (fun _ => gj_nextV (cm_M_feed_43 (d := d + 1) hc ?_))
    refine mo_four (d := d) (n := a.n + 12) hc hl rfl (by omega) (fun _ => gj_nextV (cm_M_feed_49 (d := d + 1) hc ?_))
    refine mo_four (d := d) (n := a.n + 16) hc hl rfl (by omega) (fun _ => gj_nextV (cm_M_feed_55 (d := d + 1) hc ?_))
    have e1 : ∀ (w : Wd) (f g : Nat → Int32) (u v : Int32), (((w.rowI 2 f).setI 0 55 u).rowI 2 g).setI 0 55 v = (w.rowI 2 g).setI 0 55 v := fun w f g u v => by
      rw [Wd.setI_rowI, Wd.setI_setI, Wd.rowI_rowI]
    have e2 : ∀ (w : Wd) (f : Nat → Int32) (u : Int32), ((w.rowI 2 f).setI 0 55 u).eI 2 = f := fun w f u => Wd.eI_rowI w 2 f
    rw [e1, e2, e1, e2, e1, e2, e1, e2]
    refine k.now ((h.code 0).wd rfl rfl rfl rfl rfl rfl ⟨rfl, ?_, n3, n4, n5⟩ ?_ ?_) rfl rfl
    · rw [e2]
      show sp_put4 (sp_put4 (sp_put4 (sp_put4 (sp_put4 (w.eI 2) a.n x1) (a.n + 4) x2) (a.n + 8) x3) (a.n + 12) x4) (a.n + 16) x5 = _
      rw [n2]
      rfl
    · show c + 20 * (a.n + 20) ≤ c + 400 + 20 * a.n
      omega
    · show s + 360 * (a.n + 20) ≤ s + 7200 + 360 * a.n
      omega
/-- the number 0 .. 7 of a register -/
theorem r9 {r : Int32} (h : ¬ r < 0) (h2 : ¬ 8 ≤ r) : ∃ j, j < 8 ∧ r = nI j := by
  obtain ⟨j, hj, rfl⟩ := nI_of h
  refine ⟨j, ?_, rfl⟩
  rcases Nat.lt_or_ge j 8 with q | q
  · exact q
  · exact absurd (show nI 8 ≤ nI j from nI_le q (by omega)) h2
theorem r9_no {r : Int32} (h : r < 0 ∨ 8 ≤ r) : ¬ (0 ≤ r ∧ r ≤ 7) := fun q => by
  rcases h with e | e
  · exact absurd e (Int32.not_lt.mpr q.1)
  · have e1 := Int32.le_iff_toInt_le.mp e
    have e2 := Int32.le_iff_toInt_le.mp q.2
    have e3 : (8 : Int32).toInt = 8 := rfl
    have e4 : (7 : Int32).toInt = 7 := rfl
    omega
theorem ma_clear {x1 x2 : Int32} (h : MI z σ am w a bc ou c s) (k : MQr z am bc ou σ (sp_clear x1 x2 a).2 c s (sp_clear x1 x2 a).1 Q none) : Go z l mt_M_clear (d + 9) 0 [.ref (am 0), .int x1, .int x2] [] (ov σ am 7 w) Q := by
  obtain ⟨n1, n2, n3, n4, n5⟩ := h.num
  have no : ¬ (0 ≤ x1 ∧ x1 ≤ 7 ∧ 0 ≤ x2 ∧ x2 ≤ 2) → Q (.returned none) (ov σ am 7 (w.setI 0 62 1)) := fun e => by
    rw [show sp_clear x1 x2 a = (1, a) from if_neg e] at k
    exact k.now (h.code 1) rfl rfl
  by_cases hb : ¬ x1 < 0 ∧ ¬ 8 ≤ x1
  · obtain ⟨j, hj, rfl⟩ := r9 hb.1 hb.2
    have hcj : (nI j).toNatClampNeg = j := nI_clamp (by omega)
    obtain ⟨v, t, V, hT, v1, t1, e3, -, up⟩ := h.up (i := j) (by omega)
    obtain ⟨g1, g2, g3⟩ := V.txt hT
    have ea : w.eA 3 (nI j).toNatClampNeg = some v := by rw [hcj]; exact e3 hj
    have in8 : vp_in (nI j) 8 := vp_in_nI hj (by omega)
    have yes : ∀ ty : Int32, ¬ x2 < 0 → ¬ 2 < x2 → ty = mty x2 → Q (.returned none) (ov (σ.setI 70 v 0) am 7 ((w.setI 0 62 0).rowI 4 (va_up ((w.setI 0 62 0).eI 4) (nI j).toNatClampNeg ty))) := fun ty e1 e2 et => by
      have hj7 : nI j ≤ 7 := show nI j ≤ nI 7 from nI_le (by omega) (by omega)
      rw [show sp_clear (nI j) x2 a = (0, (a.T, a.n, va_up a.kn (nI j).toNatClampNeg x2, va_up a.R (nI j).toNatClampNeg v_null, a.2.2.2.2)) from if_pos ⟨i32_pos hb.1, hj7, i32_pos e1, Int32.not_lt.mp e2⟩] at k
      rw [hcj] at k ⊢
      have cm' : CM z (σ.setI 70 v 0) am := ⟨h.cm.1, fun i hi => h.cm.2 i hi⟩
      have V' : VM (σ.setI 70 v 0) am v v_null := by
        obtain ⟨m1, m2, m3, m, m4, m5, t9, m6, m7, m8, m9, m10⟩ := V
        exact ⟨m1, Hp.sI _ _ _ _, fun e => absurd (show (3 : Int32) = 0 ∨ (3 : Int32) = 2 from e) (by decide), m, m4, (Hp.sI_nf _ _ _ _ (by decide)).trans m5, t9, m6, m7, m8, m9, fun e => absurd (show (3 : Int32) = 1 from e) (by decide)⟩
      refine k (σ.setI 70 v 0) _ (up _ _ _ v_null c s cm' (fun y h1 _ => SameC.setI h1) rfl rfl V' hT rfl rfl rfl (fun r hr => ?_) ?_ rfl ⟨n1, ?_, fun r hr => ?_, n4, n5⟩ (Nat.le_refl _) (Nat.le_refl _)) (fun x hx => SameC.setI (by omega)) (Nat.le_refl _) rfl
      · show va_up a.R j v_null r = _
        unfold va_up
        rfl
      · rw [if_neg (by omega)]; rfl
      · exact (Wd.eI_rowI_ne _ _ (by decide)).trans n2
      · rw [Wd.eI_rowI]
        show va_up (w.eI 4) j ty r = mty (va_up a.kn j x2 r)
        by_cases e : r = j
        · rw [e, hp_up_same, hp_up_same]; exact et
        · rw [hp_up_ne _ _ e, hp_up_ne _ _ e]; exact n3 r hr
    refine cm_M_clear (d := d) (b2 := v) (b7 := v) (b12 := v) h.cm h.lk V.1 v1.2 V.1 v1.2 V.1 v1.2 (fun e => absurd e hb.1) (fun _ e => absurd e hb.2) (fun _ _ e => no (fun q => absurd e (Int32.not_lt.mpr q.2.2.1))) (fun _ _ _ e => no (fun q => absurd e (Int32.not_lt.mpr q.2.2.2))) (fun _ _ _ _ _ _ => in8) (fun _ _ _ _ _ _ => ea) (fun _ _ e1 e2 e3 e4 => yes 16 e1 e2 ?_) (fun _ _ _ _ _ _ => in8) (fun _ _ _ _ _ _ => ea) (fun _ _ e1 e2 e3 e4 => yes 25 e1 e2 (by rw [e4]; rfl)) (fun _ _ _ _ _ => in8) (fun _ _ _ _ _ => ea) (fun _ _ e1 e2 e3 => yes 20 e1 e2 (by rw [e3]; rfl))
    obtain ⟨i, hi, rfl⟩ := nI_of e1
    have hi2 := (nI_leI hi (b := 2) (by omega)).mp (Int32.not_lt.mp e2)
    have i2 : i = 2 := by
      have h0 : i ≠ 0 := fun q => e3 (by rw [q]; rfl)
      have h1 : i ≠ 1 := fun q => e4 (by rw [q]; rfl)
      omega
    rw [i2]
    rfl
  · have hb' : x1 < 0 ∨ 8 ≤ x1 := by
      by_cases q : x1 < 0
      · exact Or.inl q
      · by_cases q2 : 8 ≤ x1
        · exact Or.inr q2
        · exact absurd ⟨q, q2⟩ hb
    have n9 := no (fun q => r9_no hb' ⟨q.1, q.2.1⟩)
    obtain ⟨v, t, V, hT, v1, t1, e3, -, up⟩ := h.up (i := 0) (by decide)
    refine cm_M_clear (d := d) (b2 := v) (b7 := v) (b12 := v) h.cm h.lk V.1 v1.2 V.1 v1.2 V.1 v1.2 (fun _ => n9) (fun _ _ => n9) (fun e1 e2 => absurd ⟨e1, e2⟩ hb) (fun e1 e2 => absurd ⟨e1, e2⟩ hb) (fun e1 e2 => absurd ⟨e1, e2⟩ hb) (fun e1 e2 => absurd ⟨e1, e2⟩ hb) (fun e1 e2 => absurd ⟨e1, e2⟩ hb) (fun e1 e2 => absurd ⟨e1, e2⟩ hb) (fun e1 e2 => absurd ⟨e1, e2⟩ hb) (fun e1 e2 => absurd ⟨e1, e2⟩ hb) (fun e1 e2 => absurd ⟨e1, e2⟩ hb) (fun e1 e2 => absurd ⟨e1, e2⟩ hb) (fun e1 e2 => absurd ⟨e1, e2⟩ hb)
end MApi
