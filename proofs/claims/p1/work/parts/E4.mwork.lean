/-! ===== the reference's arithmetic ===== -/
section MArith
variable {z : State} {l : Launch} {d : Nat} {σ : Hp} {am : Nat → Nat} {w : Wd} {R : Nat → Va} {q : Po} {Q : Outcome → Hp → Prop}
theorem mo_arith {o a b : Nat} {x y : Va} {kv : Nat} (ho : 28 ≤ o ∧ o ≤ 32) (h : EM z σ am w R q) (hk : q.k < 4000) (hA : VM σ am a x) (hB : VM σ am b y) (hx : x.1 = 3 ∨ x.1 = 0) (hy : y.1 = 3 ∨ y.1 = 0) (h1 : 1 ≤ kv)
    (kE : ¬ (if x.1 = 3 ∨ y.1 = 3 then (0, v_null) else sp_st o x y v_null).1 = 0 → VE z am R σ w q (if x.1 = 3 ∨ y.1 = 3 then (0, v_null) else sp_st o x y v_null).1 kv Q)
    (kO : (if x.1 = 3 ∨ y.1 = 3 then (0, v_null) else sp_st o x y v_null).1 = 0 → VR z am R σ w q (if x.1 = 3 ∨ y.1 = 3 then (0, v_null) else sp_st o x y v_null).2 kv Q) :
    Go z l mt_M_worked (d + 11) 0 [.ref (am 0), .int (nI (o - 28)), .ref a, .ref b, .retAddr 0, .retAddr 0] [] (ov σ am 7 w) Q := by
  have hx4 : k4 x.1 := hx.elim (fun e => Or.inr (Or.inr (Or.inr e))) (fun e => Or.inl e)
  have hy4 : k4 y.1 := hy.elim (fun e => Or.inr (Or.inr (Or.inr e))) (fun e => Or.inl e)
  have ta : σ.I 70 a = 0 ↔ x.1 = 3 := by rw [hA.2.1]; exact mty_0 hx4
  have tb : σ.I 70 b = 0 ↔ y.1 = 3 := by rw [hB.2.1]; exact mty_0 hy4
  have nul : (x.1 = 3 ∨ y.1 = 3) → Go z l mt_M_value_1 (d + 10) 0 [.ref (am 0), .int 0, .long 0, .retAddr 0, .retAddr 0, .retAddr 0] [] (ov σ am 7 w) (fun o' σ1 => hp_Le (ov σ am 7 w) σ1 → gj_next z l mt_M_worked (d + 11) 17 [.ref (am 0), .int (nI (o - 28)), .ref a, .ref b, .retAddr 0, .retAddr 0] [] Q o' σ1) := fun e => by
    rw [if_pos e] at kO
    exact mo_null (d := d + 1) h hk h1 (fun σ' w' q' v E F W V _ => gj_nextI (cm_M_worked_20 (d := d + 2) E.1 (kO rfl σ' w' q' v E F W V)))
  have nn : ¬ σ.I 70 a = 0 → ¬ σ.I 70 b = 0 → x.1 = 0 ∧ y.1 = 0 ∧ ¬ (x.1 = 3 ∨ y.1 = 3) := fun e1 e2 => by
    have x3 : ¬ x.1 = 3 := fun e => e1 (ta.mpr e)
    have y3 : ¬ y.1 = 3 := fun e => e2 (tb.mpr e)
    exact ⟨hx.resolve_left x3, hy.resolve_left y3, fun e => e.elim x3 y3⟩
  have r0 : op_result.getD o 0 = 0 := (by decide +kernel : ∀ o, o < 33 → 28 ≤ o → op_result.getD o 0 = 0) o (by omega) ho.1
  have st : sp_st o x y v_null = (sp_fin (sp_arith o x.2.1 y.2.1), (0, (sp_arith o x.2.1 y.2.1).2, [])) := by
    unfold sp_st
    rw [if_neg (by rw [r0]; decide), if_neg (by rw [r0]; decide)]
  have nk : ∀ j, j < 5 → (nI (o - 28) = nI j ↔ o = 28 + j) := fun j hj => (nI_eq (by omega) (by omega)).trans ⟨fun e => by omega, fun e => by omega⟩
  have err : ¬ (x.1 = 3 ∨ y.1 = 3) → ∀ e, sp_fin (sp_arith o x.2.1 y.2.1) = e → ¬ e = 0 → Q (.threw (am 1)) (ov σ am 7 (w.setI 1 79 e)) := fun n3 e he e0 => by
    rw [if_neg n3, st] at kE
    subst he
    exact kE e0 σ w q h ((EvF.rfl' am σ q).mono (Nat.zero_le _)) (WE.rfl' w)
  have num : ∀ (n : Int64) (pc : Nat), ¬ (x.1 = 3 ∨ y.1 = 3) → sp_arith o x.2.1 y.2.1 = (0, n) → (∀ (σ' : Hp) (w' : Wd) (v : Nat), CM z σ' am → Q (.returned (some (.ref v))) (ov σ' am 7 w') → Go z l mt_M_worked (d + 11) (pc + 3) [.ref (am 0), .int (nI (o - 28)), .ref a, .ref b, .retAddr 0, .retAddr 0] [.ref v] (ov σ' am 7 w') Q) → Go z l mt_M_number (d + 10) 0 [.ref (am 0), .long n, .retAddr 0] [] (ov σ am 7 w) (fun o' σ1 => hp_Le (ov σ am 7 w) σ1 → gj_next z l mt_M_worked (d + 11) pc [.ref (am 0), .int (nI (o - 28)), .ref a, .ref b, .retAddr 0, .retAddr 0] [] Q o' σ1) := fun n pc n3 es ret => by
    rw [if_neg n3, st, es] at kE kO
    exact mo_number (d := d) h hk h1 (fun e4 σ' w' q' E F W _ => gj_nextT (go_out (fun _ h => nomatch h) (by
      have k9 := kE (by rw [e4]; exact (show ¬ (4 : Int32) = 0 by decide)) σ' w' q' E F W
      rw [e4] at k9
      exact k9))) (fun e0 σ' w' q' v E F W V _ => gj_nextI (ret σ' w' v E.1 (kO e0 σ' w' q' v E F W V)))
  have ja : x.1 = 0 → σ.J 71 a = x.2.1 := fun e => hA.2.2.1 (Or.inl e)
  have jb : y.1 = 0 → σ.J 71 b = y.2.1 := fun e => hB.2.2.1 (Or.inl e)
  have k0 : nI (o - 28) = 0 ↔ o = 28 := nk 0 (by decide)
  have k1 : nI (o - 28) = 1 ↔ o = 29 := nk 1 (by decide)
  have k2 : nI (o - 28) = 2 ↔ o = 30 := nk 2 (by decide)
  have k3 : nI (o - 28) = 3 ↔ o = 31 := nk 3 (by decide)
  have k4' : nI (o - 28) = 4 ↔ o = 32 := nk 4 (by decide)
  have rng : ¬ ((nI (o - 28)).toInt < 0 ∨ 4 < (nI (o - 28)).toInt) := by
    rw [gj_nn (nI_pos (by omega)), nI_clamp (by omega)]
    omega
  refine cm_M_worked (d := d + 2) h.1 h.2.1 hA.1 hB.1 (fun e => nul (Or.inl (ta.mp e))) (fun _ _ e => absurd e rng) (fun e1 e2 e => ?_) (fun e1 e2 e => ?_) (fun e1 e2 e c => ?_) (fun e1 e2 e c => ?_) (fun e1 e2 e c c2 => ?_) (fun e1 e2 e c c2 => ?_) (fun e1 e2 e c => ?_) (fun _ _ e _ n9 => absurd e n9) (fun _ _ e _ n9 => absurd e n9) (fun e1 e2 e c _ => ?_) (fun e1 e2 e c _ => ?_) (fun e1 e2 e c => ?_) (fun e1 e2 e c _ => ?_) (fun e1 e2 e c _ => ?_) (fun e1 e2 e c e9 => ?_) (fun e1 e2 e c e9 => ?_) (fun _ e => nul (Or.inr (tb.mp e)))
  · obtain ⟨x0, y0, n3⟩ := nn e1 e2
    rw [ja x0, jb y0]
    exact num _ 66 n3 (by rw [k0.mp e]; rfl) (fun σ' w' v hc k => cm_M_worked_69 (d := d + 2) hc k)
  · obtain ⟨x0, y0, n3⟩ := nn e1 e2
    rw [ja x0, jb y0]
    exact num _ 80 n3 (by rw [k1.mp e]; rfl) (fun σ' w' v hc k => cm_M_worked_83 (d := d + 2) hc k)
  · obtain ⟨x0, y0, n3⟩ := nn e1 e2
    rw [ja x0] at c
    rw [ja x0, jb y0]
    have c0 := lgc_eq0.mp c
    exact num _ 135 n3 (by rw [k2.mp e]; exact if_pos c0) (fun σ' w' v hc k => cm_M_worked_138 (d := d + 2) hc k)
  · obtain ⟨x0, y0, n3⟩ := nn e1 e2
    rw [ja x0] at c ⊢
    have c0 : ¬ x.2.1 = 0 := fun q9 => c (lgc_eq0.mpr q9)
    exact j_abs0 c0
  · obtain ⟨x0, y0, n3⟩ := nn e1 e2
    rw [ja x0] at c
    rw [ja x0, jb y0] at c2
    have c0 : ¬ x.2.1 = 0 := fun q9 => c (lgc_eq0.mpr q9)
    refine err n3 4 ?_ (by decide)
    rw [k2.mp e]
    show sp_fin (if x.2.1 = 0 then (0, x.2.1 * y.2.1) else if j_abs y.2.1 ≤ 9007199254740991 / j_abs x.2.1 then (0, x.2.1 * y.2.1) else (0, 9007199254740992)) = 4
    rw [if_neg c0, if_neg (fun q9 => by
      have := lgc_gt0.mp c2
      rw [Int64.le_iff_toInt_le] at q9
      exact absurd this (Int.not_lt.mpr q9))]
    rfl
  · obtain ⟨x0, y0, n3⟩ := nn e1 e2
    rw [ja x0] at c
    rw [ja x0, jb y0] at c2 ⊢
    have c0 : ¬ x.2.1 = 0 := fun q9 => c (lgc_eq0.mpr q9)
    refine num _ 135 n3 ?_ (fun σ' w' v hc k => cm_M_worked_138 (d := d + 2) hc k)
    rw [k2.mp e]
    show (if x.2.1 = 0 then (0, x.2.1 * y.2.1) else if j_abs y.2.1 ≤ 9007199254740991 / j_abs x.2.1 then (0, x.2.1 * y.2.1) else (0, 9007199254740992)) = _
    rw [if_neg c0, if_pos (by
      rw [Int64.le_iff_toInt_le]
      exact Int.not_lt.mp (fun q9 => c2 (lgc_gt0.mpr q9)))]
  · obtain ⟨x0, y0, n3⟩ := nn e1 e2
    rw [jb y0] at c
    refine err n3 3 ?_ (by decide)
    rw [k3.mp e]
    show sp_fin (if y.2.1 = 0 then (3, 0) else (0, x.2.1 / y.2.1)) = 3
    rw [if_pos (lgc_eq0.mp c)]
    rfl
  · obtain ⟨x0, y0, n3⟩ := nn e1 e2
    rw [jb y0] at c ⊢
    exact fun q9 => c (lgc_eq0.mpr q9)
  · obtain ⟨x0, y0, n3⟩ := nn e1 e2
    rw [jb y0] at c
    rw [ja x0, jb y0]
    refine num _ 185 n3 ?_ (fun σ' w' v hc k => cm_M_worked_188 (d := d + 2) hc k)
    rw [k3.mp e]
    show (if y.2.1 = 0 then (3, 0) else (0, x.2.1 / y.2.1)) = _
    rw [if_neg (fun q9 => c (lgc_eq0.mpr q9))]
  · obtain ⟨x0, y0, n3⟩ := nn e1 e2
    rw [jb y0] at c
    refine err n3 3 ?_ (by decide)
    rw [k4'.mp e]
    show sp_fin (if y.2.1 = 0 then (3, 0) else (0, x.2.1 - x.2.1 / y.2.1 * y.2.1)) = 3
    rw [if_pos (lgc_eq0.mp c)]
    rfl
  · obtain ⟨x0, y0, n3⟩ := nn e1 e2
    rw [jb y0] at c ⊢
    exact fun q9 => c (lgc_eq0.mpr q9)
  · obtain ⟨x0, y0, n3⟩ := nn e1 e2
    rw [jb y0] at c
    rw [ja x0, jb y0]
    refine num _ 185 n3 ?_ (fun σ' w' v hc k => cm_M_worked_188 (d := d + 2) hc k)
    rw [k4'.mp e]
    show (if y.2.1 = 0 then (3, 0) else (0, x.2.1 - x.2.1 / y.2.1 * y.2.1)) = _
    rw [if_neg (fun q9 => c (lgc_eq0.mpr q9))]
  · exact absurd (e9.symm.trans e) (by decide)
  · exact absurd (e9.symm.trans e) (by decide)
end MArith
