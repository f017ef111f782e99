/-! ===== the reference's scanner: its next sign ===== -/
theorem idx_gt9 {x : List Int32} : ∀ ws : List (List Int32), sc_idx x ws < ws.length → ws.getD (sc_idx x ws) [] = x
  | [], h => absurd h (Nat.not_lt_zero _)
  | y :: ws, h => by
    rw [sc_idx] at h ⊢
    by_cases e : x = y
    · rw [if_pos e]; exact e.symm
    · rw [if_neg e] at h ⊢
      exact idx_gt9 ws (Nat.lt_of_succ_lt_succ h)
def TokA (σ : Hp) (am : Nat → Nat) (w : Wd) (T : Nat → Int32) (L s : Nat) (a : Nat × Nat × Int64 × List Int32) : Prop :=
  (a.1 < 15 ∧ w.I 0 44 = 1 ∧ w.I 0 46 = nI a.2.1 ∧ ∃ q, w.A 0 47 = some q ∧ StrM σ am q (sg_chs a.1))
  ∨ (a.1 = 15 ∧ w.I 0 44 = 2 ∧ w.I 0 46 = nI a.2.1 ∧ ∃ q, w.A 0 47 = some q ∧ StrM σ am q (sc_lows T s a.2.1))
  ∨ (a.1 = 16 ∧ w.I 0 44 = 3 ∧ w.I 0 46 = nI a.2.1 ∧ w.J 0 48 = a.2.2.1)
  ∨ (a.1 = 17 ∧ w.I 0 44 = 4 ∧ w.I 0 46 = nI a.2.1 ∧ ∃ v, w.A 0 49 = some v ∧ VM σ am v (1, lN a.2.2.2.length, a.2.2.2))
  ∨ (18 ≤ a.1 ∧ a.1 ≤ 32 ∧ w.I 0 44 = 6 ∧ w.I 0 46 = nI a.2.1 ∧ a.2.1 = s + (sg_chs a.1).length ∧ MkM T L s (sg_chs a.1))
  ∨ (a.1 = 34 ∧ w.I 0 44 = 6 ∧ w.I 0 46 = nI (s + 1) ∧ (MkM T L s [46] ∨ MkM T L s [59]))
  ∨ (a.1 = 33 ∧ w.I 0 44 = 0)
  ∨ (a.1 = 34 ∧ w.I 0 44 = 7)
/-- the sign's own cells are new -/
def TokL (σ : Hp) (w : Wd) (lo : Nat) : Prop := ((w.I 0 44 = 1 ∨ w.I 0 44 = 2) → ∀ a, w.A 0 47 = some a → lo ≤ a ∧ ∀ b, σ.A 81 a = some b → lo ≤ b) ∧ (w.I 0 44 = 4 → ∀ v, w.A 0 49 = some v → lo ≤ v ∧ ∀ t, σ.A 73 v = some t → lo ≤ t)
theorem TokL.of {σ : Hp} {w : Wd} {lo : Nat} {v : Int32} (h : w.I 0 44 = v) (hv : ¬ v = 1 ∧ ¬ v = 2 ∧ ¬ v = 4) : TokL σ w lo := by
  subst h
  exact ⟨fun q => (q.elim hv.1 hv.2.1).elim, fun q => (hv.2.2 q).elim⟩
theorem TokL.mono {σ : Hp} {w : Wd} {lo lo' : Nat} (h : TokL σ w lo) (hl : lo' ≤ lo) : TokL σ w lo' := ⟨fun q a ha => ⟨Nat.le_trans hl (h.1 q a ha).1, fun b hb => Nat.le_trans hl ((h.1 q a ha).2 b hb)⟩, fun q a ha => ⟨Nat.le_trans hl (h.2 q a ha).1, fun b hb => Nat.le_trans hl ((h.2 q a ha).2 b hb)⟩⟩
section MTok
variable {z : State} {l : Launch} {d : Nat} {σ : Hp} {am : Nat → Nat} {w : Wd} {Q : Outcome → Hp → Prop} {T : Nat → Int32} {L sa s : Nat}
/-- the ways out of next -/
def NK (z : State) (σ : Hp) (am : Nat → Nat) (w : Wd) (Q : Outcome → Hp → Prop) (T : Nat → Int32) (L sa s : Nat) : Prop :=
  ∀ a σ' w', tk_at T L s = a → PM z σ' am w' T L sa → Fm am (fun _ => False) σ σ' → SS w w' → w'.I 0 45 = nI s → TokA σ' am w' T L s a → TokL σ' w' σ.nx → σ'.nx ≤ σ.nx + 12 * ((if a.1 = 34 then L else a.2.1) - s) → σ'.sl ≤ σ.sl + 110 * ((if a.1 = 34 then L else a.2.1) - s) → Q (.returned none) (ov σ' am 7 w')
theorem mk2 {c e : Int32} (h1 : s + 1 < L) (h2 : T s = c) (h3 : T (s + 1) = e) : MkM T L s [c, e] := ⟨h1, fun i hi => by
  have hi' : i < 2 := hi
  rcases (by omega : i = 0 ∨ i = 1) with rfl | rfl
  · exact h2
  · exact h3⟩
/-- signs of two characters -/
theorem mo_two {v : Nat} (h : PM z σ am w T L sa) (hs : s < L) (h45 : w.I 0 45 = nI s) (hl : ¬ sc_let (T s)) (hd : ¬ sc_dig (T s)) (h39 : ¬ T s = 39) (hg : sc_sign T L s = (v, s + 2)) (hv : 18 ≤ v ∧ v ≤ 32 ∧ (sg_chs v).length = 2) (hm : MkM T L s (sg_chs v)) (k : NK z σ am w Q T L sa s) : Q (.returned none) (ov σ am 7 ((w.setI 0 46 (nI s + 2)).setI 0 44 6)) := by
  have ea : tk_at T L s = (v, s + 2, 0, []) := by
    unfold tk_at
    rw [if_neg (by omega), if_neg hl, if_neg hd, if_neg h39, hg]
  have S : SS w ((w.setI 0 46 (nI s + 2)).setI 0 44 6) := (SS.setI _ _ (by decide) (by decide)).trans (SS.setI _ _ (by decide) (by decide))
  refine k _ σ _ ea (h.w S) (Fm.rfl' _ _ _) S h45 ?_ (TokL.of (v := 6) rfl (by decide)) (Nat.le_add_right _ _) (Nat.le_add_right _ _)
  exact Or.inr (Or.inr (Or.inr (Or.inr (Or.inl ⟨hv.1, hv.2.1, rfl, nI_add s 2, by show s + 2 = s + (sg_chs v).length; rw [hv.2.2], hm⟩))))
/-- a sign of one character, or none -/
theorem mo_mk1 (h : PM z σ am w T L sa) (hs : s < L) (h45 : w.I 0 45 = nI s) (hl : ¬ sc_let (T s)) (hd : ¬ sc_dig (T s)) (h39 : ¬ T s = 39) (hn : ¬ T s = 124 ∨ ¬ sc_fol T L s 124) (hsg : sc_sign T L s = (if T s = 124 then 34 else sc_mark (T s), s + 1)) (k : NK z σ am w Q T L sa s) :
    Go z l mt_JString_indexOf_0 (d + 13) 0 [.ref (strZ z "TruthBenchModel" 122), .int (atv T L s)] [] (ov σ am 7 (w.setI 0 46 (nI s + 1))) (fun o σ1 => hp_Le (ov σ am 7 (w.setI 0 46 (nI s + 1))) σ1 → gj_next z l mt_M_next (d + 14) 343 [.ref (am 0), .int (nI s), .int (atv T L s), .int 0] [.ref (am 0)] Q o σ1) := by
  have ea : tk_at T L s = ((sc_sign T L s).1, (sc_sign T L s).2, 0, []) := by
    unfold tk_at
    rw [if_neg (by omega), if_neg hl, if_neg hd, if_neg h39]
  refine mo_one (d := d + 1) h hs hn hsg h45 (fun w' S q45 q => ?_)
  refine k _ σ _ ea (h.w S) (Fm.rfl' _ _ _) S q45 ?_ (q.elim (fun q => TokL.of q.2.2.1 (by decide)) (fun q => q.elim (fun q => TokL.of q.2.1 (by decide)) (fun q => TokL.of q.2 (by decide)))) (Nat.le_add_right _ _) (Nat.le_add_right _ _)
  rcases q with q | q | q
  · exact Or.inr (Or.inr (Or.inr (Or.inr (Or.inl q))))
  · exact Or.inr (Or.inr (Or.inr (Or.inr (Or.inr (Or.inl q)))))
  · exact Or.inr (Or.inr (Or.inr (Or.inr (Or.inr (Or.inr (Or.inr q))))))
/-- the marks -/
theorem mo_marks (h : PM z σ am w T L sa) (hs : s < L) (h45 : w.I 0 45 = nI s) (hl : ¬ sc_let (T s)) (hd : ¬ sc_dig (T s)) (h39 : ¬ T s = 39) (k : NK z σ am w Q T L sa s) :
    (¬ atv T L s = 60 → ¬ atv T L s = 62 → ¬ atv T L s = 124 → Go z l mt_JString_indexOf_0 (d + 13) 0 [.ref (strZ z "TruthBenchModel" 122), .int (atv T L s)] [] (ov σ am 7 (w.setI 0 46 (nI s + 1))) (fun o σ1 => hp_Le (ov σ am 7 (w.setI 0 46 (nI s + 1))) σ1 → gj_next z l mt_M_next (d + 14) 343 [.ref (am 0), .int (nI s), .int (atv T L s), .int 0] [.ref (am 0)] Q o σ1)) ∧
    (atv T L s = 124 → Go z l mt_M_at (d + 13) 0 [.ref (am 0), .int (nI s + 1)] [] (ov σ am 7 w) (fun o σ1 => hp_Le (ov σ am 7 w) σ1 → gj_next z l mt_M_next (d + 14) 304 [.ref (am 0), .int (nI s), .int (atv T L s), .retAddr 0] [] Q o σ1)) ∧
    (atv T L s = 62 → Go z l mt_M_at (d + 13) 0 [.ref (am 0), .int (nI s + 1)] [] (ov σ am 7 w) (fun o σ1 => hp_Le (ov σ am 7 w) σ1 → gj_next z l mt_M_next (d + 14) 286 [.ref (am 0), .int (nI s), .int (atv T L s), .retAddr 0] [] Q o σ1)) ∧
    (atv T L s = 60 → Go z l mt_M_at (d + 13) 0 [.ref (am 0), .int (nI s + 1)] [] (ov σ am 7 w) (fun o σ1 => hp_Le (ov σ am 7 w) σ1 → gj_next z l mt_M_next (d + 14) 256 [.ref (am 0), .int (nI s), .int (atv T L s), .retAddr 0] [] Q o σ1)) := by
  have hL := h.2.2.2.2.2.1
  have hT := h.2.2.2.2.2.2.1
  have t1 : σ.tag (strZ z "TruthBenchModel" 122) = 12 := (ms_c122 h.2.2.2.2.2.2.2.1).1
  have A : ∀ c, c ≤ 127 → (atv T L s = nI c ↔ T s = nI c) := fun c hc => (atv_eq hT hc).trans ⟨fun q => q.2, fun q => ⟨hs, q⟩⟩
  have B : ∀ c, c ≤ 127 → (atv T L (s + 1) = nI c ↔ s + 1 < L ∧ T (s + 1) = nI c) := fun c hc => atv_eq hT hc
  have A60 : atv T L s = 60 ↔ T s = 60 := A 60 (by decide)
  have A62 : atv T L s = 62 ↔ T s = 62 := A 62 (by decide)
  have A124 : atv T L s = 124 ↔ T s = 124 := A 124 (by decide)
  have B61 : atv T L (s + 1) = 61 ↔ s + 1 < L ∧ T (s + 1) = 61 := B 61 (by decide)
  have B62 : atv T L (s + 1) = 62 ↔ s + 1 < L ∧ T (s + 1) = 62 := B 62 (by decide)
  have B124 : atv T L (s + 1) = 124 ↔ s + 1 < L ∧ T (s + 1) = 124 := B 124 (by decide)
  have i12 : ¬ (60 : Int32) = 62 := by decide
  have i13 : ¬ (60 : Int32) = 124 := by decide
  have i23 : ¬ (62 : Int32) = 124 := by decide
  refine ⟨fun n1 n2 n3 => ?_, fun e => ?_, fun e => ?_, fun e => ?_⟩
  · have m1 : ¬ T s = 60 := fun q => n1 (A60.mpr q)
    have m2 : ¬ T s = 62 := fun q => n2 (A62.mpr q)
    have m3 : ¬ T s = 124 := fun q => n3 (A124.mpr q)
    refine mo_mk1 h hs h45 hl hd h39 (Or.inl m3) ?_ k
    unfold sc_sign
    rw [if_neg (fun q => m1 q.1), if_neg (fun q => m1 q.1), if_neg (fun q => m2 q.1), if_neg m3, if_neg m3]
  · have e1 := A124.mp e
    have m1 : ¬ T s = 60 := fun q => i13 (q.symm.trans e1)
    have m2 : ¬ T s = 62 := fun q => i23 (q.symm.trans e1)
    rw [nI_1]
    refine mo_at (d := d + 4) h (by omega) (fun _ => gj_nextI (cm_M_next_307 (d := d + 5) h.1 t1 (fun q => ?_) (fun q => ?_)))
    · have nq : ¬ (s + 1 < L ∧ T (s + 1) = 124) := fun r => q (B124.mpr r)
      refine mo_mk1 h hs h45 hl hd h39 (Or.inr nq) ?_ k
      unfold sc_sign
      rw [if_neg (fun q => m1 q.1), if_neg (fun q => m1 q.1), if_neg (fun q => m2 q.1), if_pos e1, if_neg nq, if_pos e1]
    · have r := B124.mp q
      refine mo_two (v := 26) h hs h45 hl hd h39 ?_ ⟨by decide, by decide, rfl⟩ (mk2 r.1 e1 r.2) k
      unfold sc_sign
      rw [if_neg (fun q => m1 q.1), if_neg (fun q => m1 q.1), if_neg (fun q => m2 q.1), if_pos e1, if_pos r]
  · have e1 := A62.mp e
    have m1 : ¬ T s = 60 := fun q => i12 (q.symm.trans e1)
    have m3 : ¬ T s = 124 := fun q => i23 (e1.symm.trans q)
    rw [nI_1]
    refine mo_at (d := d + 4) h (by omega) (fun _ => gj_nextI (cm_M_next_289 (d := d + 5) h.1 t1 (fun q => ?_) (fun q _ => ?_) (fun _ q => absurd (A124.mp q) m3)))
    · have r := B61.mp q
      refine mo_two (v := 23) h hs h45 hl hd h39 ?_ ⟨by decide, by decide, rfl⟩ (mk2 r.1 e1 r.2) k
      unfold sc_sign
      rw [if_neg (fun q => m1 q.1), if_neg (fun q => m1 q.1), if_pos ⟨e1, r⟩]
    · have nq : ¬ (s + 1 < L ∧ T (s + 1) = 61) := fun r => q (B61.mpr r)
      refine mo_mk1 h hs h45 hl hd h39 (Or.inl m3) ?_ k
      unfold sc_sign
      rw [if_neg (fun q => m1 q.1), if_neg (fun q => m1 q.1), if_neg (fun q => nq q.2), if_neg m3, if_neg m3]
  · have e1 := A60.mp e
    have m2 : ¬ T s = 62 := fun q => i12 (e1.symm.trans q)
    have m3 : ¬ T s = 124 := fun q => i13 (e1.symm.trans q)
    rw [nI_1]
    refine mo_at (d := d + 4) h (by omega) (fun _ => gj_nextI (cm_M_next_259 (d := d + 5) h.1 (fun q => ?_) (fun q2 => ?_)))
    · have r := B62.mp q
      refine mo_two (v := 19) h hs h45 hl hd h39 ?_ ⟨by decide, by decide, rfl⟩ (mk2 r.1 e1 r.2) k
      unfold sc_sign
      rw [if_pos ⟨e1, r⟩]
    · have nq2 : ¬ (s + 1 < L ∧ T (s + 1) = 62) := fun r => q2 (B62.mpr r)
      rw [nI_1]
      refine mo_at (d := d + 4) h (by omega) (fun _ => gj_nextI (cm_M_next_271 (d := d + 5) h.1 t1 (fun q => ?_) (fun q _ _ => ?_) (fun _ _ q => absurd (A124.mp q) m3) (fun _ q => absurd (A62.mp q) m2)))
      · have r := B61.mp q
        refine mo_two (v := 21) h hs h45 hl hd h39 ?_ ⟨by decide, by decide, rfl⟩ (mk2 r.1 e1 r.2) k
        unfold sc_sign
        rw [if_neg (fun q => nq2 q.2), if_pos ⟨e1, r⟩]
      · have nq : ¬ (s + 1 < L ∧ T (s + 1) = 61) := fun r => q (B61.mpr r)
        refine mo_mk1 h hs h45 hl hd h39 (Or.inl m3) ?_ k
        unfold sc_sign
        rw [if_neg (fun q => nq2 q.2), if_neg (fun q => nq q.2), if_neg (fun q => m2 q.1), if_neg m3, if_neg m3]
/-- a quoted text -/
theorem mo_qtd {v2 : Value} (h : PM z σ am w T L sa) (hs : s < L) (h45 : w.I 0 45 = nI s) (h46 : w.I 0 46 = nI s) (hl : ¬ sc_let (T s)) (hd : ¬ sc_dig (T s)) (h39 : T s = 39) (k : NK z σ am w Q T L sa s) :
    Go z l mt_M_quoted (d + 13) 0 [.ref (am 0), .retAddr 0] [] (ov σ am 7 w) (fun o σ1 => hp_Le (ov σ am 7 w) σ1 → gj_next z l mt_M_next (d + 14) 240 [.ref (am 0), .int (nI s), .int (atv T L s), .retAddr 0] [] Q o σ1) := by
  refine go_wf fun hw => ?_
  have ea : tk_at T L s = (if (sc_quote T L (L - s) (s + 1)).1 = true ∧ sc_alb (sc_quote T L (L - s) (s + 1)).2.2 = true ∧ (sc_quote T L (L - s) (s + 1)).2.2.length ≤ 40 then 17 else 34, (sc_quote T L (L - s) (s + 1)).2.1, 0, (sc_quote T L (L - s) (s + 1)).2.2) := by
    unfold tk_at
    rw [if_neg (by omega), if_neg hl, if_neg hd, if_pos h39]
  obtain ⟨q1, q2, q3⟩ := quote_le (T := T) (L - s) (s + 1) (show s + 1 ≤ L from hs)
  have hx0 : mx am σ.nx := h.1.nxO hw
  have hzs := h.1.zs hw
  have lt7 : ∀ i, i < 7 → am i < σ.nx := h.1.lt hw
  have hx1 : mx am (σ.nx + 1) := fun i hi e => by have := lt7 i hi; omega
  have hsa := h.2.2.2.1.2.2.1
  have ne01 : σ.nx ≠ σ.nx + 1 := by omega
  refine cm_M_quoted (d := d + 4) h.1 ?_
  rw [h46]
  have fr : ∀ a, a < σ.nx → SameC σ ((((σ.newO 10 4).newA 21 40).setA 73 σ.nx (some ((σ.newO 10 4).nx))).setI 70 σ.nx 25) a := fun a ha =>
    (((SameC.newO ha).trans (SameC.newA (Nat.lt_succ_of_lt ha))).trans (SameC.setA (Nat.ne_of_lt ha))).trans (SameC.setI (Nat.ne_of_lt ha))
  have fm : Fm am (fun _ => False) σ ((((σ.newO 10 4).newA 21 40).setA 73 σ.nx (some ((σ.newO 10 4).nx))).setI 70 σ.nx 25) := ⟨Nat.le_add_right _ 2, Nat.le_add_right _ 44, fun a ha _ _ => fr a ha⟩
  have hc1 : CM z ((((σ.newO 10 4).newA 21 40).setA 73 σ.nx (some ((σ.newO 10 4).nx))).setI 70 σ.nx 25) am := ⟨h.1.1, fun i hi => by
    have s9 := fr _ (lt7 i hi)
    exact ⟨s9.1.trans (h.1.2 i hi).1, s9.2.1.trans (h.1.2 i hi).2.1, (h.1.2 i hi).2.2⟩⟩
  have S : SS w (((w.setI 0 44 4).setA 0 49 (some σ.nx)).setI 0 46 (nI s + 1)) := ((SS.setI _ _ (by decide) (by decide)).trans (SS.setA _ _ (by decide) (by decide))).trans (SS.setI _ _ (by decide) (by decide))
  have i72 : ((((σ.newO 10 4).newA 21 40).setA 73 σ.nx (some ((σ.newO 10 4).nx))).setI 70 σ.nx 25).I 72 σ.nx = 0 := by
    have h9 := ((hw.1 σ.nx (Nat.le_refl _)).2.2.1 72).1
    rw [nn_I hx0] at h9
    exact (Hp.sI_nf _ _ _ _ (by decide)).trans h9
  have hQV : QV ((((σ.newO 10 4).newA 21 40).setA 73 σ.nx (some ((σ.newO 10 4).nx))).setI 70 σ.nx 25) σ.nx (σ.nx + 1) [] := ⟨(hp_up_ne _ _ ne01).trans (hp_up_same _ _ _), Hp.sI _ _ _ _, i72, Nat.zero_le _, Hp.sA _ _ _ _, hp_up_same _ _ _, hp_up_same _ _ _, fun i hi => absurd hi (Nat.not_lt_zero _)⟩
  refine mo_quo (d := d + 3) (b := σ.nx) (t := σ.nx + 1) hx1 hzs (by omega) (by omega) (by omega) (L - s) (s + 1) _ _ [] _ (h.fr hc1 fm S.ws) (by omega) hs (nI_1 s) rfl rfl hQV (fun σ' w' P F S' e45 en es good bad => ?_)
  have F' : Fm am (fun _ => False) σ σ' := fm.trans F (fun _ _ q => q) (fun a ha q => by omega)
  have en' : σ'.nx = σ.nx + 2 := en
  have es' : σ'.sl = σ.sl + 44 := es
  refine fun _ => gj_nextV (cm_M_next_243 (d := d + 5) P.1 ?_)
  by_cases g : (sc_quote T L (L - s) (s + 1)).1 = true ∧ sc_alb (sc_quote T L (L - s) (s + 1)).2.2 = true ∧ (sc_quote T L (L - s) (s + 1)).2.2.length ≤ 40
  · rw [if_pos g] at ea
    have g' : qgood T L (L - s) (s + 1) [] := ⟨g.1, g.2.1, by show 0 + _ ≤ 40; rw [Nat.zero_add]; exact g.2.2⟩
    obtain ⟨b1, b2, b3, b4⟩ := good g'
    refine k _ σ' w' ea P F' (S.trans S') (e45.trans h45) (Or.inr (Or.inr (Or.inr (Or.inl ⟨rfl, b1, b2, _, b3, b4.vm hx1⟩)))) ⟨fun q => by rw [b1] at q; exact absurd q (by decide), fun _ v hv => by
      obtain rfl : σ.nx = v := Option.some.inj (b3.symm.trans hv)
      exact ⟨Nat.le_refl _, fun t ht => by have := Option.some.inj (b4.2.2.2.2.1.symm.trans ht); omega⟩⟩ ?_ ?_
    · show σ'.nx ≤ σ.nx + 12 * ((sc_quote T L (L - s) (s + 1)).2.1 - s)
      omega
    · show σ'.sl ≤ σ.sl + 110 * ((sc_quote T L (L - s) (s + 1)).2.1 - s)
      omega
  · rw [if_neg g] at ea
    have g' : ¬ qgood T L (L - s) (s + 1) [] := fun q => g ⟨q.1, q.2.1, by have := q.2.2; rw [show ([] : List Int32).length = 0 from rfl, Nat.zero_add] at this; exact this⟩
    refine k _ σ' w' ea P F' (S.trans S') (e45.trans h45) (Or.inr (Or.inr (Or.inr (Or.inr (Or.inr (Or.inr (Or.inr ⟨rfl, bad g'⟩))))))) (TokL.of (bad g') (by decide)) ?_ ?_
    · show σ'.nx ≤ σ.nx + 12 * (L - s)
      omega
    · show σ'.sl ≤ σ.sl + 110 * (L - s)
      omega
/-- from the first character of a sign -/
theorem mo_tok (h : PM z σ am w T L sa) (hs : s ≤ L) (h45 : w.I 0 45 = nI s) (h46 : w.I 0 46 = nI s) (k : NK z σ am w Q T L sa s) :
    Go z l mt_M_next (d + 14) 106 [.ref (am 0), .int (nI s), .retAddr 0, .retAddr 0] [.int (atv T L s)] (ov σ am 7 w) Q := by
  have hL := h.2.2.2.2.2.1
  have hT := h.2.2.2.2.2.2.1
  have t1 : σ.tag (strZ z "TruthBenchModel" 122) = 12 := (ms_c122 h.2.2.2.2.2.2.2.1).1
  refine cm_M_next_106 (d := d + 5) h.1 (fun q => ?_) (fun q => ?_)
  · have hsL : s < L := by
      rcases Nat.lt_or_ge s L with e | e
      · exact e
      · exact absurd ((atv_neg hT).mpr e) (Int32.not_lt.mpr q)
    refine mo_let (d := d + 4) h.1 (fun _ => gj_nextI ?_)
    by_cases hl : sc_let (T s)
    · rw [decide_eq_true ((atv_let hT).mpr ⟨hsL, hl⟩)]
      refine cm_M_next_123 (d := d + 5) h.1 (fun q => absurd (show (1 : Int32) = 0 from q) (by decide)) (fun _ => ?_)
      refine mo_wordy (d := d) h hsL hl h46 (fun σ' w' a P F S e45 e46 e47 hS lo9 e44 hr hlt bn bs => ?_)
      refine fun _ => gj_nextV (cm_M_next_130 (d := d + 5) P.1 ?_)
      have ea : tk_at T L s = (sc_ofWord T s (sc_word T L (L - s) s), sc_word T L (L - s) s, 0, []) := by
        unfold tk_at
        rw [if_neg (by omega), if_pos hl]
      have wl := (word_le (T := T) (L := L) (L - s) s).2 hs
      have le9 : (sc_word T L (L - s) s) - s ≤ (if sc_ofWord T s (sc_word T L (L - s) s) = 34 then L else sc_word T L (L - s) s) - s := by
        split <;> omega
      have tl : TokL σ' w' σ.nx := ⟨fun _ b hb => by
        obtain rfl : a = b := Option.some.inj (e47.symm.trans hb)
        exact lo9, fun q => by
        rw [e44] at q
        split at q
        · exact absurd q (by decide)
        · split at q <;> exact absurd q (by decide)⟩
      refine k _ σ' w' ea P F S (e45.trans h45) ?_ tl (Nat.le_trans bn (Nat.add_le_add_left (Nat.mul_le_mul_left 12 le9) _)) (Nat.le_trans bs (Nat.add_le_add_left (Nat.mul_le_mul_left 110 le9) _))
      by_cases g34 : sc_ofWord T s (sc_word T L (L - s) s) = 34
      · rw [if_pos g34] at e44
        exact Or.inr (Or.inr (Or.inr (Or.inr (Or.inr (Or.inr (Or.inr ⟨g34, e44⟩))))))
      · rw [if_neg g34] at e44
        by_cases g15 : sc_ofWord T s (sc_word T L (L - s) s) = 15
        · rw [if_pos g15] at e44
          exact Or.inr (Or.inl ⟨g15, e44, e46, a, e47, hS⟩)
        · rw [if_neg g15] at e44
          have lt15 : sc_ofWord T s (sc_word T L (L - s) s) < 15 := by omega
          refine Or.inl ⟨lt15, e44, e46, a, e47, ?_⟩
          have e20 : ¬ 20 < sc_word T L (L - s) s - s := fun q => g34 (if_pos q)
          have eq9 : sc_ofWord T s (sc_word T L (L - s) s) = sc_idx (sc_lows T s (sc_word T L (L - s) s)) sc_words := if_neg e20
          show StrM σ' am a (sg_chs (sc_ofWord T s (sc_word T L (L - s) s)))
          unfold sg_chs
          rw [if_pos lt15, eq9, idx_gt9 sc_words (by rw [← eq9]; exact lt15)]
          exact hS
    · rw [decide_eq_false (fun q => hl ((atv_let hT).mp q).2)]
      refine cm_M_next_123 (d := d + 5) h.1 (fun _ => ?_) (fun q => absurd rfl q)
      refine mo_dig (d := d + 4) h.1 (fun _ => gj_nextI ?_)
      by_cases hd : sc_dig (T s)
      · rw [decide_eq_true ((atv_dig hT).mpr ⟨hsL, hd⟩)]
        have n0 : ¬ (b2i true : Int32) = 0 := by decide
        refine cm_M_next_137 (d := d + 5) h.1 t1 (fun q => absurd q n0) (fun q => absurd q n0) (fun q => absurd q n0) (fun q => absurd q n0) (fun q => absurd q n0) (fun _ => ?_)
        have S0 : SS w (w.setJ 0 48 0) := SS.setJ _ _ (by decide) (by decide)
        refine mo_int (d := d + 4) (L - s) s 0 _ (h.w S0) (by omega) hs h46 (show IR 0 0 from ⟨by decide, by decide, by decide, by decide, fun _ => rfl, fun q => absurd q (by decide)⟩) (fun w' S e45 e46 e44 e48 => ?_)
        have ea : tk_at T L s = (if 9007199254740991 < (sc_int T L (L - s) 0 s).1 then 34 else 16, (sc_int T L (L - s) 0 s).2, (sc_int T L (L - s) 0 s).1, []) := by
          unfold tk_at
          rw [if_neg (by omega), if_neg hl, if_pos hd]
        by_cases g : 9007199254740991 < (sc_int T L (L - s) 0 s).1
        · rw [if_pos g] at ea e44
          exact k _ σ w' ea (h.w (S0.trans S)) (Fm.rfl' _ _ _) (S0.trans S) (e45.trans h45) (Or.inr (Or.inr (Or.inr (Or.inr (Or.inr (Or.inr (Or.inr ⟨rfl, e44⟩))))))) (TokL.of e44 (by decide)) (Nat.le_add_right _ _) (Nat.le_add_right _ _)
        · rw [if_neg g] at ea e44
          exact k _ σ w' ea (h.w (S0.trans S)) (Fm.rfl' _ _ _) (S0.trans S) (e45.trans h45) (Or.inr (Or.inr (Or.inl ⟨rfl, e44, e46, e48 g⟩))) (TokL.of e44 (by decide)) (Nat.le_add_right _ _) (Nat.le_add_right _ _)
      · rw [decide_eq_false (fun q => hd ((atv_dig hT).mp q).2)]
        have A39 : atv T L s = 39 ↔ T s = 39 := (atv_eq (c := 39) hT (by decide)).trans ⟨fun q => q.2, fun q => ⟨hsL, q⟩⟩
        by_cases h39 : T s = 39
        · refine cm_M_next_137 (d := d + 5) h.1 t1 (fun _ q => absurd (A39.mpr h39) q) (fun _ q => absurd (A39.mpr h39) q) (fun _ q => absurd (A39.mpr h39) q) (fun _ q => absurd (A39.mpr h39) q) (fun _ _ => ?_) (fun q => absurd rfl q)
          exact mo_qtd (v2 := .retAddr 0) h hsL h45 h46 hl hd h39 k
        · obtain ⟨m1, m2, m3, m4⟩ := mo_marks (l := l) (d := d) h hsL h45 hl hd h39 k
          exact cm_M_next_137 (d := d + 5) h.1 t1 (fun _ _ => m1) (fun _ _ _ _ => m2) (fun _ _ _ => m3) (fun _ _ => m4) (fun _ q => absurd (A39.mp q) h39) (fun q => absurd rfl q)
  · have hsL : L ≤ s := (atv_neg hT).mp (Int32.not_le.mp q)
    have ea : tk_at T L s = (33, s, 0, []) := if_pos hsL
    have S : SS w (w.setI 0 44 0) := SS.setI _ _ (by decide) (by decide)
    exact k _ σ _ ea (h.w S) (Fm.rfl' _ _ _) S h45 (Or.inr (Or.inr (Or.inr (Or.inr (Or.inr (Or.inr (Or.inl ⟨rfl, rfl⟩))))))) (TokL.of (v := 0) rfl (by decide)) (Nat.le_add_right _ _) (Nat.le_add_right _ _)
theorem mo_next {p : Nat} (h : PM z σ am w T L sa) (hp : p ≤ L) (h46 : w.I 0 46 = nI p)
    (k : ∀ σ' w', PM z σ' am w' T L sa → Fm am (fun _ => False) σ σ' → SS w w' → TokM σ' am w' T L p → TokL σ' w' σ.nx → σ'.nx ≤ σ.nx + 12 * (tk_E T L p - p) → σ'.sl ≤ σ.sl + 110 * (tk_E T L p - p) → Q (.returned none) (ov σ' am 7 w')) :
    Go z l mt_M_next (d + 14) 0 [.ref (am 0), .retAddr 0, .retAddr 0, .retAddr 0] [] (ov σ am 7 w) Q := by
  have hL := h.2.2.2.2.2.1
  have ts := tk_s_le (T := T) hp
  refine cm_M_next (d := d + 5) h.1 ?_
  rw [h46]
  refine (mo_skip (d := d + 4) h (L - p) p (by omega) (by omega)).1 ?_ _ _
  have S : SS w ((w.setI 0 45 (nI (tk_s T L p))).setI 0 46 (nI (tk_s T L p))) := (SS.setI _ _ (by decide) (by decide)).trans (SS.setI _ _ (by decide) (by decide))
  refine mo_tok (d := d) (h.w S) ts.2 rfl rfl (fun a σ' w' ea P F S' e45 tk tl bn bs => ?_)
  subst ea
  have le9 : (if (tk_at T L (tk_s T L p)).1 = 34 then L else (tk_at T L (tk_s T L p)).2.1) - tk_s T L p ≤ tk_E T L p - p := by
    show (tk_E T L p) - tk_s T L p ≤ tk_E T L p - p
    omega
  exact k σ' w' P F (S.trans S') ⟨e45, tk⟩ tl (Nat.le_trans bn (Nat.add_le_add_left (Nat.mul_le_mul_left 12 le9) _)) (Nat.le_trans bs (Nat.add_le_add_left (Nat.mul_le_mul_left 110 le9) _))
end MTok
