/-! ===== feed ===== -/
def sp_by (v s : Int32) : Int32 := vp_nar .byte ((v >>> (s &&& 31)).toInt8.toInt32)
def sp_put4 (T : Nat → Int32) (n : Nat) (v : Int32) : Nat → Int32 := va_up (va_up (va_up (va_up T n (sp_by v 24)) (n + 1) (sp_by v 16)) (n + 2) (sp_by v 8)) (n + 3) (sp_by v 0)
theorem put4_ag {f g : Nat → Int32} {n : Nat} {v : Int32} (h : ∀ j, j < n → f j = g j) : ∀ j, j < n + 4 → sp_put4 f n v j = sp_put4 g n v j := by
  intro j hj
  unfold sp_put4
  by_cases h3 : j = n + 3
  · rw [h3, hp_up_same, hp_up_same]
  · rw [hp_up_ne _ _ h3, hp_up_ne _ _ h3]
    by_cases h2 : j = n + 2
    · rw [h2, hp_up_same, hp_up_same]
    · rw [hp_up_ne _ _ h2, hp_up_ne _ _ h2]
      by_cases h1 : j = n + 1
      · rw [h1, hp_up_same, hp_up_same]
      · rw [hp_up_ne _ _ h1, hp_up_ne _ _ h1]
        by_cases h0 : j = n
        · rw [h0, hp_up_same, hp_up_same]
        · rw [hp_up_ne _ _ h0, hp_up_ne _ _ h0]
          exact h j (by omega)
def sp_feed (x1 x2 x3 x4 x5 : Int32) (a : Ab) : Nat × Int32 × Ab := if a.n + 20 ≤ 1000 then (0, nI (a.n + 20), (sp_put4 (sp_put4 (sp_put4 (sp_put4 (sp_put4 a.T a.n x1) (a.n + 4) x2) (a.n + 8) x3) (a.n + 12) x4) (a.n + 16) x5, a.n + 20, a.2.2)) else (1, 0, a)
section Api2
variable {z : State} {l : Launch} {d : Nat} {σ : Hp} {ad : Nat → Nat} {Q : Outcome → Hp → Prop} {op sg : Nat → Nat} {aO aS mO mS : Nat} {w : Wd} {a : Ab}
theorem pb_step {n : Nat} {v s s' : Int32} (hc : CW z σ ad) (hl : CLk w ad) (hn : w.I 0 1 = nI n) (hn9 : n < 1000) (h0 : ¬ s < 0) (hs : s + (-8) = s') (k : Go z l mt_T_putBytes (d + 9) 3 [.ref (ad 0), .int v, .int s'] [] (ov σ ad 21 ((w.rowI 1 (va_up (w.eI 1) n (sp_by v s))).setI 0 1 (nI (n + 1)))) Q) : Go z l mt_T_putBytes (d + 9) 3 [.ref (ad 0), .int v, .int s] [] (ov σ ad 21 w) Q := by
  have q : ¬ (1000 : Int32) ≤ w.I 0 1 := by rw [hn]; exact nI_ge (b := 1000) hn9 (by omega)
  refine cs_T_putBytes_3 (d := d) hc hl (fun h => absurd h h0) (fun _ h => absurd h q) (fun _ _ => by rw [hn]; exact vp_in_nI hn9 (by omega)) (fun _ _ => ?_)
  rw [hn, nI_clamp (by omega), nI_1, hs]
  exact k
theorem cl_put4 {n : Nat} {v : Int32} (hc : CW z σ ad) (hl : CLk w ad) (hn : w.I 0 1 = nI n) (hn9 : n + 4 ≤ 1000) (k : Q (.returned none) (ov σ ad 21 ((w.rowI 1 (sp_put4 (w.eI 1) n v)).setI 0 1 (nI (n + 4))))) : Go z l mt_T_putBytes (d + 9) 0 [.ref (ad 0), .int v, .retAddr 0] [] (ov σ ad 21 w) Q := by
  refine cs_T_putBytes (d := d) hc ?_
  refine pb_step (s' := 16) hc hl hn (by omega) (by decide) (by decide) ?_
  refine pb_step (n := n + 1) (s' := 8) hc hl rfl (by omega) (by decide) (by decide) ?_
  refine pb_step (n := n + 2) (s' := 0) hc hl rfl (by omega) (by decide) (by decide) ?_
  refine pb_step (n := n + 3) (s' := -8) hc hl rfl (by omega) (by decide) (by decide) ?_
  refine cs_T_putBytes_3 (d := d) hc hl (fun _ => ?_) (fun h => absurd (by decide) h) (fun h => absurd (by decide) h) (fun h => absurd (by decide) h)
  have e1 : ∀ (w : Wd) (f g : Nat → Int32) (u v : Int32), (((w.rowI 1 f).setI 0 1 u).rowI 1 g).setI 0 1 v = (w.rowI 1 g).setI 0 1 v := fun w f g u v => by
    rw [Wd.setI_rowI, Wd.setI_setI, Wd.rowI_rowI]
  have e2 : ∀ (w : Wd) (f : Nat → Int32) (u : Int32), ((w.rowI 1 f).setI 0 1 u).eI 1 = f := fun w f u => Wd.eI_rowI w 1 f
  rw [e1, e2, e1, e2, e1, e2]
  exact k
theorem ac_feed {x1 x2 x3 x4 x5 : Int32} (hI : CI z σ ad op sg aO aS mO mS w a) (ha : a.n ≤ 1000) (k0 : (sp_feed x1 x2 x3 x4 x5 a).1 = 0 → ∀ w', CI z σ ad op sg aO aS mO mS w' (sp_feed x1 x2 x3 x4 x5 a).2.2 → Q (.returned (some (.int (sp_feed x1 x2 x3 x4 x5 a).2.1))) (ov σ ad 21 w')) (k1 : (sp_feed x1 x2 x3 x4 x5 a).1 = 1 → (sp_feed x1 x2 x3 x4 x5 a).2.2 = a → Q (.threw σ.nx) (ov (σ.newO 14 6) ad 21 w)) : Go z l mt_T_feed (d + 10) 0 [.ref (ad 0), .int x1, .int x2, .int x3, .int x4, .int x5] [] (ov σ ad 21 w) Q := by
  have hn := hI.2.2.1
  have hl := hI.2.1
  have hc := hI.1.1
  have e20 : w.I 0 1 + 20 = nI (a.n + 20) := by rw [hn]; exact nI_add a.n 20
  refine cs_T_feed (d := d + 1) hc (fun h => ?_) (fun h => ?_)
  · rw [e20] at h
    have h' := (nI_leI (b := 1000) (by omega) (by omega)).mp h
    have e : sp_feed x1 x2 x3 x4 x5 a = (0, nI (a.n + 20), (sp_put4 (sp_put4 (sp_put4 (sp_put4 (sp_put4 a.T a.n x1) (a.n + 4) x2) (a.n + 8) x3) (a.n + 12) x4) (a.n + 16) x5, a.n + 20, a.2.2)) := if_pos h'
    rw [e] at k0
    refine cl_put4 (d := d) hc hl hn (by omega) (fun _ => gj_nextV (cs_T_feed_26 (d := d + 1) hc ?_))
    refine cl_put4 (d := d) (n := a.n + 4) hc hl rfl (by omega) (fun _ => gj_nextV (cs_T_feed_31 (d := d + 1) hc ?_))
    refine cl_put4 (d := d) (n := a.n + 8) hc hl rfl (by omega) (fun _ => gj_nextV (cs_T_feed_36 (d := d + 1) hc ?_))
    refine cl_put4 (d := d) (n := a.n + 12) hc hl rfl (by omega) (fun _ => gj_nextV (cs_T_feed_42 (d := d + 1) hc ?_))
    refine cl_put4 (d := d) (n := a.n + 16) hc hl rfl (by omega) (fun _ => gj_nextV (cs_T_feed_48 (d := d + 1) hc ?_))
    have e1 : ∀ (w : Wd) (f g : Nat → Int32) (u v : Int32), (((w.rowI 1 f).setI 0 1 u).rowI 1 g).setI 0 1 v = (w.rowI 1 g).setI 0 1 v := fun w f g u v => by
      rw [Wd.setI_rowI, Wd.setI_setI, Wd.rowI_rowI]
    have e2 : ∀ (w : Wd) (f : Nat → Int32) (u : Int32), ((w.rowI 1 f).setI 0 1 u).eI 1 = f := fun w f u => Wd.eI_rowI w 1 f
    rw [e1, e2, e1, e2, e1, e2, e1, e2]
    refine k0 rfl _ ?_
    obtain ⟨c1, c2, c3, c4, c5, ⟨S, c6, c7, c8⟩, c9, c10, c11, c12, c13⟩ := hI
    refine ⟨c1, c2, rfl, ?_, c5, ⟨S, c6, c7, c8⟩, c9, c10, c11, c12, c13⟩
    rw [e2, c4]
    rfl
  · rw [e20] at h
    have h' : ¬ a.n + 20 ≤ 1000 := fun q => h ((nI_leI (b := 1000) (by omega) (by omega)).mpr q)
    have e : sp_feed x1 x2 x3 x4 x5 a = (1, 0, a) := if_neg h'
    rw [e] at k1
    exact k1 rfl rfl
end Api2
