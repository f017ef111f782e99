/-! ===== kind, work, read ===== -/
theorem rg_cg {S R : Nat → Va} (h : ∀ r, r < 8 → S r = R r) : rg S = rg R := by
  funext r
  unfold rg
  by_cases hr : r < 8
  · rw [if_pos hr, if_pos hr]; exact h r hr
  · rw [if_neg hr, if_neg hr]
section Api5
variable {z : State} {l : Launch} {d : Nat} {σ : Hp} {ad : Nat → Nat} {Q : Outcome → Hp → Prop} {op sg : Nat → Nat} {aO aS mO mS : Nat} {w : Wd} {a : Ab}
theorem ac_kind (hI : CI z σ ad op sg aO aS mO mS w a) (k0 : (sp_kind a).1 = 0 → (sp_kind a).2.2 = a → ∀ w', CI z σ ad op sg aO aS mO mS w' a → Q (.returned (some (.int (sp_kind a).2.1))) (ov σ ad 21 w')) (k1 : (sp_kind a).1 = 1 → (sp_kind a).2.2 = a → Q (.threw σ.nx) (ov (σ.newO 17 6) ad 21 w)) (k2 : (sp_kind a).1 = 2 → ∀ w', CI z σ ad op sg aO aS mO mS w' (sp_kind a).2.2 → Q (.threw σ.nx) (ov (σ.newO 18 6) ad 21 w')) : Go z l mt_T_kind (d + 22) 0 [.ref (ad 0)] [] (ov σ ad 21 w) Q := by
  refine cs_T_kind (d := d + 13) hI.1.1 (ac_checked (d := d) hI (fun m hx e1 w1 h1 _ => gj_nextI (cs_T_kind_4 (d := d + 13) hI.1.1 ?_)) (fun hx _ => gj_nextT (go_out (fun _ h => nomatch h) ?_)) (fun m hx e1 w1 h1 _ => gj_nextT (go_out (fun _ h => nomatch h) ?_)))
  · have e : sp_kind a = (0, (m.1 a.kn).2, a) := by
      rw [sp_kind, hx]
      exact if_neg (fun q => q e1)
    rw [e] at k0
    exact k0 rfl rfl w1 h1
  · have e : sp_kind a = (1, 0, a) := by rw [sp_kind, hx]
    rw [e] at k1
    exact k1 rfl rfl
  · have e : sp_kind a = (2, 0, a.err (m.1 a.kn).1) := by
      rw [sp_kind, hx]
      exact if_pos e1
    rw [e] at k2
    exact k2 rfl w1 h1
theorem ac_work (hI : CI z σ ad op sg aO aS mO mS w a) (ha : a.ok) (k0 : (sp_work a).1 = 0 → ∀ w', CI z σ ad op sg aO aS mO mS w' (sp_work a).2.2 → Q (.returned (some (.int (sp_work a).2.1))) (ov σ ad 21 w')) (k1 : (sp_work a).1 = 1 → (sp_work a).2.2 = a → Q (.threw σ.nx) (ov (σ.newO 17 6) ad 21 w)) (k2 : (sp_work a).1 = 2 → ∀ w', CI z σ ad op sg aO aS mO mS w' (sp_work a).2.2 → Q (.threw σ.nx) (ov (σ.newO 18 6) ad 21 w')) : Go z l mt_T_work (d + 22) 0 [.ref (ad 0)] [] (ov σ ad 21 w) Q := by
  refine cs_T_work (d := d + 13) hI.1.1 (ac_checked (d := d) hI (fun m hx e1 w1 h1 _ => gj_nextI ?_) (fun hx _ => gj_nextT (go_out (fun _ h => nomatch h) ?_)) (fun m hx e1 w1 h1 _ => gj_nextT (go_out (fun _ h => nomatch h) ?_)))
  · have h1' := h1
    obtain ⟨c1, c2, c3, c4, c5, ⟨S, c6, c7, c8⟩, c9, c10, c11, ⟨ko, c12⟩, c13⟩ := h1
    rw [hx] at c11
    obtain ⟨len, c, ko0, g1, g2, g3, g4, g5, g6, g7⟩ := c11
    have eR : rg S = rg a.R := rg_cg c7
    have hrg : rg_ok a.kn S := fun r hr => by
      rw [c7 r hr]
      have h := ha.2.1 r hr
      refine ⟨h.2, fun q => ?_⟩
      rcases h.1 with h | h | h <;> rw [h] at q <;> exact absurd q (by decide)
    refine cs_T_work_4 (d := d + 13) c1.1 c2 (go_eq (show d + 1 + 20 = d + 21 by omega) (cl_run (d := d + 1) (ko := ko) g6.2.1 ⟨c1.1, c1.2.1, c2, c12, g4, g2⟩ (fun j hj => ⟨?_, rfl⟩) (fun j _ => rfl) c6 (by omega) hrg e1 (fun e2 w2 S2 f2 hS2 q1 q2 _ => gj_nextI ?_) (fun e2 w2 S2 f2 hS2 q1 _ => gj_nextI ?_)))
    · have a1 := c12 j (by omega)
      have a2 := g5 j hj
      exact op_inj c1.2.1 a1.2 a2.2 (a1.1.symm.trans a2.1)
    · rw [eR] at e2 q2
      have e : sp_work a = (0, if (m.2.1 (rg a.R)).2.1 = 3 then 0 else 1, a.held (m.2.1 (rg a.R)).2) := by
        rw [sp_work, hx]
        exact (if_neg (fun q => q e1)).trans (if_neg (fun q => q e2))
      rw [e] at k0
      refine cs_T_work_17 (d := d + 13) c1.1 (f2.link c2) (fun _ => ?_) (fun h => absurd rfl h)
      refine go_eq (show d + 12 + 9 = d + 21 by omega) (cl_copy (d := d + 12) (s := 9) (t := 8) c1.1 (f2.link c2) hS2 (by decide) (by decide) (fun w3 f3 hS3 _ => gj_nextV ?_))
      have hI3 : CI z σ ad op sg aO aS mO mS w3 (a.held (m.2.1 (rg a.R)).2) := h1'.kf (f2.trans f3.kf) ⟨_, hS3, fun r hr => (hp_up_ne _ _ (by omega)).trans ((q1 r (by omega)).trans (c7 r hr)), (hp_up_same _ _ _).trans q2⟩ rfl rfl rfl rfl rfl rfl
      have e4 : w3.eI 4 (8 : Int32).toNatClampNeg = (m.2.1 (rg a.R)).2.1 := by
        have := (hS3 8 (by decide)).1.1
        rw [hp_up_same, q2] at this
        exact this
      refine cs_T_work_31 (d := d + 13) c1.1 hI3.2.1 (fun h => ?_) (fun h => ?_)
      · rw [e4] at h
        rw [if_neg h] at k0
        exact k0 rfl w3 hI3
      · rw [e4] at h
        rw [if_pos h] at k0
        exact k0 rfl w3 hI3
    · rw [eR] at e2 ⊢
      have e : sp_work a = (2, 0, a.err (m.2.1 (rg a.R)).1) := by
        rw [sp_work, hx]
        exact (if_neg (fun q => q e1)).trans (if_pos e2)
      rw [e] at k2
      refine cs_T_work_17 (d := d + 13) c1.1 (f2.link c2) (fun h => absurd h e2) (fun _ => k2 rfl _ ?_)
      have hI2 : CI z σ ad op sg aO aS mO mS w2 a := h1'.kf f2 ⟨S2, hS2, fun r hr => (q1 r (by omega)).trans (c7 r hr), (q1 8 (by omega)).trans c8⟩ rfl rfl rfl rfl rfl rfl
      exact hI2.er
  · have e : sp_work a = (1, 0, a) := by rw [sp_work, hx]
    rw [e] at k1
    exact k1 rfl rfl
  · have e : sp_work a = (2, 0, a.err (m.1 a.kn).1) := by
      rw [sp_work, hx]
      exact if_pos e1
    rw [e] at k2
    exact k2 rfl w1 h1
end Api5
