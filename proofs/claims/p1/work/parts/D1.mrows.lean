/-! ===== the reference's rules: rows of operators. Printed by wip/tools/genD1.py ===== -/
def kd_prod (o : Nat) : Int32 := if o = 30 then 2 else if o = 31 then 3 else 4
def kd_sum (o : Nat) : Int32 := if o = 28 then 0 else if o = 29 then 1 else 5
section Rterm
variable {z : State} {l : Launch} {am : Nat → Nat} {T : Nat → Int32} {L sa lo k hb : Nat} {F : Nat → Nat → Pr}
theorem rm_term_loop (hF : RM z l am T L sa lo mt_M_unary [.ref (am 0), .retAddr 0] k 3 hb F) (hP : PairR am lo 14 kd_prod ex_2 (fun o => ∃ g, g < 35 ∧ og_prod g = o ∧ ¬ o = 0)) {d : Nat} {Q : Outcome → Hp → Prop} {σ0 : Hp} {w0 : Wd} {p0 ops0 : Nat} :
    ∀ (f i : Nat) (m : Ex) (σ : Hp) (w : Wd) (p ops n : Nat) (u : Value), i + f = 301 → i ≤ ops → ops0 ≤ ops → p0 + 1 ≤ p → MG z σ am w T L sa lo p ops k → Fm am (fun _ => False) σ0 σ → WS w0 w → Bc T L σ0 σ p0 p → RepN m lo σ0.nx σ.nx σ am n (hb + (ops - ops0)) (2 * (p - p0)) → (∀ o H, MO z am T L sa lo σ0 w0 p0 ops0 k hb (sp_ops T L F og_prod ex_2 f m p ops) o H → Q o H) → Go z l mt_M_term (d + 10 * (30 - k) + 34) 5 [.ref (am 0), .ref n, u] [] (ov σ am 7 w) Q := by
  intro f
  induction f with
  | zero =>
    intro i m σ w p ops n u hi hio ho0 hp0 hG hF0 hW0 hB0 hR kk
    have := hG.2.2.2.2.2.2.2.1
    omega
  | succ f ih =>
    intro i m σ w p ops n u hi hio ho0 hp0 hG hF0 hW0 hB0 hR kk
    have hst : MSt z σ := hG.1.2.2.2.2.2.2.2.1
    have hpl : p ≤ L := hG.2.2.2.1
    have tl := tk_le (T := T) hpl
    have g35 : tk_g T L p < 35 := tl.2.2.2.2.2.1
    have w51 : w.I 0 51 = nI ops := hG.2.2.2.2.2.1
    have o300 : ops ≤ 300 := hG.2.2.2.2.2.2.2.1
    have c300 : 300 ≤ w.I 0 51 ↔ 300 ≤ ops := by
      rw [w51]
      constructor
      · intro q
        rcases Nat.lt_or_ge ops 300 with e | e
        · exact absurd (show nI 300 ≤ nI ops from q) (nI_ge e (by decide))
        · exact e
      · exact fun q => show nI 300 ≤ nI ops from nI_le q (by omega)
    by_cases h0 : og_prod (tk_g T L p) = 0
    · have res := kk _ _ (mo_ok (show sp_ops T L F og_prod ex_2 (f + 1) m p ops = _ from if_pos h0) hG ho0 hp0 hF0 hW0 hB0 hR)
      have ng : ¬ tk_g T L p = 27 ∧ ¬ tk_g T L p = 28 ∧ ¬ tk_g T L p = 29 := (by decide +kernel : ∀ g, g < 35 → og_prod g = 0 → ¬ g = 27 ∧ ¬ g = 28 ∧ ¬ g = 29) _ g35 h0
      refine fgt3 (cm_M_term_5 (d := d + 10 * (30 - k) + 25) hG.1.1 (mg_is (d := d + 10 * (30 - k) + 22) (g := 27) hG (ms_c261 hst) (by decide) (by decide) (fun _ => gj_nextI ?_)))
      rw [decide_eq_false ng.1]
      refine cm_M_term_12 (d := d + 10 * (30 - k) + 25) hG.1.1 hG.1.2.1 (fun q => absurd rfl q) (fun q => absurd rfl q) (fun _ => mg_is (d := d + 10 * (30 - k) + 22) (g := 28) hG (ms_c263 hst) (by decide) (by decide) (fun _ => gj_nextI ?_))
      rw [decide_eq_false ng.2.1]
      refine cm_M_term_22 (d := d + 10 * (30 - k) + 25) hG.1.1 hG.1.2.1 (fun q => absurd rfl q) (fun q => absurd rfl q) (fun _ => mg_is (d := d + 10 * (30 - k) + 22) (g := 29) hG (ms_c265 hst) (by decide) (by decide) (fun _ => gj_nextI ?_))
      rw [decide_eq_false ng.2.2]
      exact cm_M_term_32 (d := d + 10 * (30 - k) + 25) hG.1.1 hG.1.2.1 (fun _ => res) (fun q => absurd rfl q) (fun q => absurd rfl q)
    · have gg : tk_g T L p = 27 ∨ tk_g T L p = 28 ∨ tk_g T L p = 29 := (by decide +kernel : ∀ g, g < 35 → ¬ og_prod g = 0 → g = 27 ∨ g = 28 ∨ g = 29) _ g35 h0
      have h33 : ¬ tk_g T L p = 33 := by omega
      have h34 : ¬ tk_g T L p = 34 := by omega
      have thr : 300 ≤ w.I 0 51 → Q (.threw (am 1)) (ov σ am 7 ((w.setI 1 79 0).setI 0 60 (w.I 0 45))) := fun q => kk _ _ (mo_err ((if_neg h0).trans (if_pos (c300.mp q))) (MB.pre hF0 hW0 hB0 hG.brk))
      have w51s : w.I 0 51 + 1 = nI (ops + 1) := by rw [w51]; exact nI_1 ops
      have nx : ¬ 300 ≤ ops → ∀ kd : Int32, kd = kd_prod (og_prod (tk_g T L p)) → Go z l mt_M_next (d + 10 * (30 - k) + 33) 0 [.ref (am 0), .retAddr 0, .retAddr 0, .retAddr 0] [] (ov σ am 7 (w.setI 0 51 (nI (ops + 1)))) (fun o σ1 => hp_Le (ov σ am 7 (w.setI 0 51 (nI (ops + 1)))) σ1 → gj_next z l mt_M_term (d + 10 * (30 - k) + 34) 70 [.ref (am 0), .ref n, .int kd] [] Q o σ1) := fun q3 kd hkd => by
        have G1 := hG.seto (v := ops + 1) (by omega)
        have es : sp_ops T L F og_prod ex_2 (f + 1) m p ops = match F (tk_e T L p) (ops + 1) with
            | .error e => .error e
            | .ok (m2, p2, o2) => sp_ops T L F og_prod ex_2 f (ex_2 (og_prod (tk_g T L p)) m m2) p2 o2 := (if_neg h0).trans (if_neg q3)
        refine mg_next (d := d + 10 * (30 - k) + 19) G1 h33 h34 (fun σ1 w1 G2 F1 S1 B1 _ => gj_nextV (cm_M_term_73 (d := d + 10 * (30 - k) + 25) G2.1.1 (hF d σ1 w1 _ _ _ G2 (fun o H hMO => ?_))))
        have W1 : WS w w1 := (WS.setI w _ (by decide) (by decide)).trans S1.ws
        cases hr : F (tk_e T L p) (ops + 1) with
        | error e =>
          rw [hr] at hMO es
          obtain ⟨rfl, hB⟩ := hMO
          exact fun _ => gj_nextT (go_out (fun _ h => nomatch h) (kk _ _ (mo_err es (MB.pre hF0 hW0 hB0 (MB.pre F1 W1 B1.bc hB)))))
        | ok x =>
          obtain ⟨m2, p2, o2⟩ := x
          rw [hr] at hMO es
          obtain ⟨y, σ2, w2, rfl, rfl, G3, ho, hp, F2, W2, B2, R2⟩ := hMO
          intro _
          have am7 := hG.2.2.2.2.2.2.2.2.2
          have R1 : RepN m lo σ0.nx σ.nx σ2 am n (hb + (ops - ops0)) (2 * (p - p0)) := hR.fm (F1.tr F2) (Nat.le_refl _) am7
          refine gj_nextI (go_wf fun hw2 => cm_M_term_81 (d := d + 10 * (30 - k) + 25) G3.1.1 (mo_pair (d := d + 10 * (30 - k) + 23) G3.1.1 R1.2.2.2.1 R2.2.2.2.1 (fun σ3 c3 f3 N3 n3 s3 _ => gj_nextI (cm_M_term_84 (d := d + 10 * (30 - k) + 25) c3 ?_))))
          obtain ⟨b01, b02⟩ := hB0
          obtain ⟨b11, b12, b13, b14⟩ := B1
          obtain ⟨b21, b22⟩ := B2
          have f1n := F1.1
          have f2n := F2.1
          have f0n := hF0.1
          refine ih (i + 1) (ex_2 (og_prod (tk_g T L p)) m m2) σ3 w2 p2 o2 _ _ (by omega) (by omega) (by omega) (by omega) (G3.fr c3 f3 hw2) (((hF0.tr F1).tr F2).tr f3) (hW0.trans (W1.trans W2)) ⟨by omega, by omega⟩ ?_ (fun o H hM => kk o H (by rw [es]; exact hM))
          rw [hkd] at N3
          have r1 := R1.fm f3 (by omega) am7
          have r2 := R2.fm f3 (Nat.le_refl _) am7
          exact (hP _ σ3 m m2 σ2.nx n y σ0.nx σ.nx σ1.nx σ2.nx σ3.nx (hb + (o2 - ops0) - 1) _ _ 0 0 ⟨_, g35, rfl, h0⟩ N3 f1n (Nat.le_refl _) (by omega) (fun r _ q => absurd q (Nat.not_lt_zero _)) (r1.mono (by omega) (Nat.le_refl _)) (r2.mono (by omega) (Nat.le_refl _))).mono (by omega) (by omega)
      have con : ¬ 300 ≤ w.I 0 51 → Go z l mt_M_is_1 (d + 10 * (30 - k) + 33) 0 [.ref (am 0), .ref (strZ z "TruthBenchModel" 261), .retAddr 0] [] (ov σ am 7 (w.setI 0 51 (w.I 0 51 + 1))) (fun o σ1 => hp_Le (ov σ am 7 (w.setI 0 51 (w.I 0 51 + 1))) σ1 → gj_next z l mt_M_term (d + 10 * (30 - k) + 34) 43 [.ref (am 0), .ref n, .retAddr 0] [] Q o σ1) := fun q => by
        have q3 : ¬ 300 ≤ ops := fun e => q (c300.mpr e)
        rw [w51s]
        have G1 := hG.seto (v := ops + 1) (by omega)
        refine mg_is (d := d + 10 * (30 - k) + 22) (g := 27) G1 (ms_c261 hst) (by decide) (by decide) (fun _ => gj_nextI ?_)
        by_cases g1 : tk_g T L p = 27
        · rw [decide_eq_true g1]
          exact cm_M_term_46 (d := d + 10 * (30 - k) + 25) hG.1.1 (fun q => absurd (show (1 : Int32) = 0 from q) (by decide)) (fun _ => nx q3 2 (by rw [g1]; rfl))
        · rw [decide_eq_false g1]
          refine cm_M_term_46 (d := d + 10 * (30 - k) + 25) hG.1.1 (fun _ => mg_is (d := d + 10 * (30 - k) + 22) (g := 28) G1 (ms_c263 hst) (by decide) (by decide) (fun _ => gj_nextI ?_)) (fun q => absurd rfl q)
          by_cases g2 : tk_g T L p = 28
          · rw [decide_eq_true g2]
            exact cm_M_term_60 (d := d + 10 * (30 - k) + 25) hG.1.1 (fun q => absurd (show (1 : Int32) = 0 from q) (by decide)) (fun _ => nx q3 3 (by rw [g2]; rfl))
          · rw [decide_eq_false g2]
            have g3 : tk_g T L p = 29 := by omega
            exact cm_M_term_60 (d := d + 10 * (30 - k) + 25) hG.1.1 (fun _ => nx q3 4 (by rw [g3]; rfl)) (fun q => absurd rfl q)
      refine fgt3 (cm_M_term_5 (d := d + 10 * (30 - k) + 25) hG.1.1 (mg_is (d := d + 10 * (30 - k) + 22) (g := 27) hG (ms_c261 hst) (by decide) (by decide) (fun _ => gj_nextI ?_)))
      by_cases g1 : tk_g T L p = 27
      · rw [decide_eq_true g1]
        exact cm_M_term_12 (d := d + 10 * (30 - k) + 25) hG.1.1 hG.1.2.1 (fun _ => thr) (fun _ => con) (fun q => absurd (show (1 : Int32) = 0 from q) (by decide))
      · rw [decide_eq_false g1]
        refine cm_M_term_12 (d := d + 10 * (30 - k) + 25) hG.1.1 hG.1.2.1 (fun q => absurd rfl q) (fun q => absurd rfl q) (fun _ => mg_is (d := d + 10 * (30 - k) + 22) (g := 28) hG (ms_c263 hst) (by decide) (by decide) (fun _ => gj_nextI ?_))
        by_cases g2 : tk_g T L p = 28
        · rw [decide_eq_true g2]
          exact cm_M_term_22 (d := d + 10 * (30 - k) + 25) hG.1.1 hG.1.2.1 (fun _ => thr) (fun _ => con) (fun q => absurd (show (1 : Int32) = 0 from q) (by decide))
        · rw [decide_eq_false g2]
          refine cm_M_term_22 (d := d + 10 * (30 - k) + 25) hG.1.1 hG.1.2.1 (fun q => absurd rfl q) (fun q => absurd rfl q) (fun _ => mg_is (d := d + 10 * (30 - k) + 22) (g := 29) hG (ms_c265 hst) (by decide) (by decide) (fun _ => gj_nextI ?_))
          rw [decide_eq_true (show tk_g T L p = 29 by omega)]
          exact cm_M_term_32 (d := d + 10 * (30 - k) + 25) hG.1.1 hG.1.2.1 (fun q => absurd (show (1 : Int32) = 0 from q) (by decide)) (fun _ => thr) (fun _ => con)
theorem rm_term (hF : RM z l am T L sa lo mt_M_unary [.ref (am 0), .retAddr 0] k 3 hb F) (hP : PairR am lo 14 kd_prod ex_2 (fun o => ∃ g, g < 35 ∧ og_prod g = o ∧ ¬ o = 0)) : RM z l am T L sa lo mt_M_term [.ref (am 0), .retAddr 0, .retAddr 0] k 4 hb (sp_row T L F og_prod ex_2) := by
  intro d σ w p ops Q hG kk
  refine cm_M_term (d := d + 10 * (30 - k) + 25) hG.1.1 (hF d σ w p ops _ hG (fun o H hMO => ?_))
  cases hr : F p ops with
  | error e =>
    rw [hr] at hMO
    obtain ⟨rfl, hB⟩ := hMO
    exact fun _ => gj_nextT (go_out (fun _ h => nomatch h) (kk _ _ (mo_err (by rw [sp_row, hr]) hB)))
  | ok x =>
    obtain ⟨m, p1, o1⟩ := x
    rw [hr] at hMO
    obtain ⟨n, σ1, w1, rfl, rfl, G1, ho, hp, F1, W1, B1, R1⟩ := hMO
    intro _
    refine gj_nextI (cm_M_term_4 (d := d + 10 * (30 - k) + 25) G1.1.1 ?_)
    exact rm_term_loop hF hP 301 0 m σ1 w1 p1 o1 n _ rfl (Nat.zero_le _) ho hp G1 F1 W1 B1 R1 (fun o H hM => kk o H (by rw [sp_row, hr]; exact hM))
end Rterm
section Rsum
variable {z : State} {l : Launch} {am : Nat → Nat} {T : Nat → Int32} {L sa lo k hb : Nat} {F : Nat → Nat → Pr}
theorem rm_sum_loop (hF : RM z l am T L sa lo mt_M_term [.ref (am 0), .retAddr 0, .retAddr 0] k 4 hb F) (hP : PairR am lo 14 kd_sum ex_2 (fun o => ∃ g, g < 35 ∧ og_sum g = o ∧ ¬ o = 0)) {d : Nat} {Q : Outcome → Hp → Prop} {σ0 : Hp} {w0 : Wd} {p0 ops0 : Nat} :
    ∀ (f i : Nat) (m : Ex) (σ : Hp) (w : Wd) (p ops n : Nat) (u : Value), i + f = 301 → i ≤ ops → ops0 ≤ ops → p0 + 1 ≤ p → MG z σ am w T L sa lo p ops k → Fm am (fun _ => False) σ0 σ → WS w0 w → Bc T L σ0 σ p0 p → RepN m lo σ0.nx σ.nx σ am n (hb + (ops - ops0)) (2 * (p - p0)) → (∀ o H, MO z am T L sa lo σ0 w0 p0 ops0 k hb (sp_ops T L F og_sum ex_2 f m p ops) o H → Q o H) → Go z l mt_M_sum (d + 10 * (30 - k) + 35) 5 [.ref (am 0), .ref n, u] [] (ov σ am 7 w) Q := by
  intro f
  induction f with
  | zero =>
    intro i m σ w p ops n u hi hio ho0 hp0 hG hF0 hW0 hB0 hR kk
    have := hG.2.2.2.2.2.2.2.1
    omega
  | succ f ih =>
    intro i m σ w p ops n u hi hio ho0 hp0 hG hF0 hW0 hB0 hR kk
    have hst : MSt z σ := hG.1.2.2.2.2.2.2.2.1
    have hpl : p ≤ L := hG.2.2.2.1
    have tl := tk_le (T := T) hpl
    have g35 : tk_g T L p < 35 := tl.2.2.2.2.2.1
    have w51 : w.I 0 51 = nI ops := hG.2.2.2.2.2.1
    have o300 : ops ≤ 300 := hG.2.2.2.2.2.2.2.1
    have c300 : 300 ≤ w.I 0 51 ↔ 300 ≤ ops := by
      rw [w51]
      constructor
      · intro q
        rcases Nat.lt_or_ge ops 300 with e | e
        · exact absurd (show nI 300 ≤ nI ops from q) (nI_ge e (by decide))
        · exact e
      · exact fun q => show nI 300 ≤ nI ops from nI_le q (by omega)
    by_cases h0 : og_sum (tk_g T L p) = 0
    · have res := kk _ _ (mo_ok (show sp_ops T L F og_sum ex_2 (f + 1) m p ops = _ from if_pos h0) hG ho0 hp0 hF0 hW0 hB0 hR)
      have ng : ¬ tk_g T L p = 24 ∧ ¬ tk_g T L p = 25 ∧ ¬ tk_g T L p = 26 := (by decide +kernel : ∀ g, g < 35 → og_sum g = 0 → ¬ g = 24 ∧ ¬ g = 25 ∧ ¬ g = 26) _ g35 h0
      refine fgt3 (cm_M_sum_5 (d := d + 10 * (30 - k) + 26) hG.1.1 (mg_is (d := d + 10 * (30 - k) + 23) (g := 24) hG (ms_c252 hst) (by decide) (by decide) (fun _ => gj_nextI ?_)))
      rw [decide_eq_false ng.1]
      refine cm_M_sum_11 (d := d + 10 * (30 - k) + 26) hG.1.1 hG.1.2.1 (fun q => absurd rfl q) (fun q => absurd rfl q) (fun _ => mg_is (d := d + 10 * (30 - k) + 23) (g := 25) hG (ms_c254 hst) (by decide) (by decide) (fun _ => gj_nextI ?_))
      rw [decide_eq_false ng.2.1]
      refine cm_M_sum_20 (d := d + 10 * (30 - k) + 26) hG.1.1 hG.1.2.1 (fun q => absurd rfl q) (fun q => absurd rfl q) (fun _ => mg_is (d := d + 10 * (30 - k) + 23) (g := 26) hG (ms_c256 hst) (by decide) (by decide) (fun _ => gj_nextI ?_))
      rw [decide_eq_false ng.2.2]
      exact cm_M_sum_30 (d := d + 10 * (30 - k) + 26) hG.1.1 hG.1.2.1 (fun _ => res) (fun q => absurd rfl q) (fun q => absurd rfl q)
    · have gg : tk_g T L p = 24 ∨ tk_g T L p = 25 ∨ tk_g T L p = 26 := (by decide +kernel : ∀ g, g < 35 → ¬ og_sum g = 0 → g = 24 ∨ g = 25 ∨ g = 26) _ g35 h0
      have h33 : ¬ tk_g T L p = 33 := by omega
      have h34 : ¬ tk_g T L p = 34 := by omega
      have thr : 300 ≤ w.I 0 51 → Q (.threw (am 1)) (ov σ am 7 ((w.setI 1 79 0).setI 0 60 (w.I 0 45))) := fun q => kk _ _ (mo_err ((if_neg h0).trans (if_pos (c300.mp q))) (MB.pre hF0 hW0 hB0 hG.brk))
      have w51s : w.I 0 51 + 1 = nI (ops + 1) := by rw [w51]; exact nI_1 ops
      have nx : ¬ 300 ≤ ops → ∀ kd : Int32, kd = kd_sum (og_sum (tk_g T L p)) → Go z l mt_M_next (d + 10 * (30 - k) + 34) 0 [.ref (am 0), .retAddr 0, .retAddr 0, .retAddr 0] [] (ov σ am 7 (w.setI 0 51 (nI (ops + 1)))) (fun o σ1 => hp_Le (ov σ am 7 (w.setI 0 51 (nI (ops + 1)))) σ1 → gj_next z l mt_M_sum (d + 10 * (30 - k) + 35) 66 [.ref (am 0), .ref n, .int kd] [] Q o σ1) := fun q3 kd hkd => by
        have G1 := hG.seto (v := ops + 1) (by omega)
        have es : sp_ops T L F og_sum ex_2 (f + 1) m p ops = match F (tk_e T L p) (ops + 1) with
            | .error e => .error e
            | .ok (m2, p2, o2) => sp_ops T L F og_sum ex_2 f (ex_2 (og_sum (tk_g T L p)) m m2) p2 o2 := (if_neg h0).trans (if_neg q3)
        refine mg_next (d := d + 10 * (30 - k) + 20) G1 h33 h34 (fun σ1 w1 G2 F1 S1 B1 _ => gj_nextV (cm_M_sum_69 (d := d + 10 * (30 - k) + 26) G2.1.1 (hF d σ1 w1 _ _ _ G2 (fun o H hMO => ?_))))
        have W1 : WS w w1 := (WS.setI w _ (by decide) (by decide)).trans S1.ws
        cases hr : F (tk_e T L p) (ops + 1) with
        | error e =>
          rw [hr] at hMO es
          obtain ⟨rfl, hB⟩ := hMO
          exact fun _ => gj_nextT (go_out (fun _ h => nomatch h) (kk _ _ (mo_err es (MB.pre hF0 hW0 hB0 (MB.pre F1 W1 B1.bc hB)))))
        | ok x =>
          obtain ⟨m2, p2, o2⟩ := x
          rw [hr] at hMO es
          obtain ⟨y, σ2, w2, rfl, rfl, G3, ho, hp, F2, W2, B2, R2⟩ := hMO
          intro _
          have am7 := hG.2.2.2.2.2.2.2.2.2
          have R1 : RepN m lo σ0.nx σ.nx σ2 am n (hb + (ops - ops0)) (2 * (p - p0)) := hR.fm (F1.tr F2) (Nat.le_refl _) am7
          refine gj_nextI (go_wf fun hw2 => cm_M_sum_77 (d := d + 10 * (30 - k) + 26) G3.1.1 (mo_pair (d := d + 10 * (30 - k) + 24) G3.1.1 R1.2.2.2.1 R2.2.2.2.1 (fun σ3 c3 f3 N3 n3 s3 _ => gj_nextI (cm_M_sum_80 (d := d + 10 * (30 - k) + 26) c3 ?_))))
          obtain ⟨b01, b02⟩ := hB0
          obtain ⟨b11, b12, b13, b14⟩ := B1
          obtain ⟨b21, b22⟩ := B2
          have f1n := F1.1
          have f2n := F2.1
          have f0n := hF0.1
          refine ih (i + 1) (ex_2 (og_sum (tk_g T L p)) m m2) σ3 w2 p2 o2 _ _ (by omega) (by omega) (by omega) (by omega) (G3.fr c3 f3 hw2) (((hF0.tr F1).tr F2).tr f3) (hW0.trans (W1.trans W2)) ⟨by omega, by omega⟩ ?_ (fun o H hM => kk o H (by rw [es]; exact hM))
          rw [hkd] at N3
          have r1 := R1.fm f3 (by omega) am7
          have r2 := R2.fm f3 (Nat.le_refl _) am7
          exact (hP _ σ3 m m2 σ2.nx n y σ0.nx σ.nx σ1.nx σ2.nx σ3.nx (hb + (o2 - ops0) - 1) _ _ 0 0 ⟨_, g35, rfl, h0⟩ N3 f1n (Nat.le_refl _) (by omega) (fun r _ q => absurd q (Nat.not_lt_zero _)) (r1.mono (by omega) (Nat.le_refl _)) (r2.mono (by omega) (Nat.le_refl _))).mono (by omega) (by omega)
      have con : ¬ 300 ≤ w.I 0 51 → Go z l mt_M_is_1 (d + 10 * (30 - k) + 34) 0 [.ref (am 0), .ref (strZ z "TruthBenchModel" 252), .retAddr 0] [] (ov σ am 7 (w.setI 0 51 (w.I 0 51 + 1))) (fun o σ1 => hp_Le (ov σ am 7 (w.setI 0 51 (w.I 0 51 + 1))) σ1 → gj_next z l mt_M_sum (d + 10 * (30 - k) + 35) 40 [.ref (am 0), .ref n, .retAddr 0] [] Q o σ1) := fun q => by
        have q3 : ¬ 300 ≤ ops := fun e => q (c300.mpr e)
        rw [w51s]
        have G1 := hG.seto (v := ops + 1) (by omega)
        refine mg_is (d := d + 10 * (30 - k) + 23) (g := 24) G1 (ms_c252 hst) (by decide) (by decide) (fun _ => gj_nextI ?_)
        by_cases g1 : tk_g T L p = 24
        · rw [decide_eq_true g1]
          exact cm_M_sum_43 (d := d + 10 * (30 - k) + 26) hG.1.1 (fun q => absurd (show (1 : Int32) = 0 from q) (by decide)) (fun _ => nx q3 0 (by rw [g1]; rfl))
        · rw [decide_eq_false g1]
          refine cm_M_sum_43 (d := d + 10 * (30 - k) + 26) hG.1.1 (fun _ => mg_is (d := d + 10 * (30 - k) + 23) (g := 25) G1 (ms_c254 hst) (by decide) (by decide) (fun _ => gj_nextI ?_)) (fun q => absurd rfl q)
          by_cases g2 : tk_g T L p = 25
          · rw [decide_eq_true g2]
            exact cm_M_sum_56 (d := d + 10 * (30 - k) + 26) hG.1.1 (fun q => absurd (show (1 : Int32) = 0 from q) (by decide)) (fun _ => nx q3 1 (by rw [g2]; rfl))
          · rw [decide_eq_false g2]
            have g3 : tk_g T L p = 26 := by omega
            exact cm_M_sum_56 (d := d + 10 * (30 - k) + 26) hG.1.1 (fun _ => nx q3 5 (by rw [g3]; rfl)) (fun q => absurd rfl q)
      refine fgt3 (cm_M_sum_5 (d := d + 10 * (30 - k) + 26) hG.1.1 (mg_is (d := d + 10 * (30 - k) + 23) (g := 24) hG (ms_c252 hst) (by decide) (by decide) (fun _ => gj_nextI ?_)))
      by_cases g1 : tk_g T L p = 24
      · rw [decide_eq_true g1]
        exact cm_M_sum_11 (d := d + 10 * (30 - k) + 26) hG.1.1 hG.1.2.1 (fun _ => thr) (fun _ => con) (fun q => absurd (show (1 : Int32) = 0 from q) (by decide))
      · rw [decide_eq_false g1]
        refine cm_M_sum_11 (d := d + 10 * (30 - k) + 26) hG.1.1 hG.1.2.1 (fun q => absurd rfl q) (fun q => absurd rfl q) (fun _ => mg_is (d := d + 10 * (30 - k) + 23) (g := 25) hG (ms_c254 hst) (by decide) (by decide) (fun _ => gj_nextI ?_))
        by_cases g2 : tk_g T L p = 25
        · rw [decide_eq_true g2]
          exact cm_M_sum_20 (d := d + 10 * (30 - k) + 26) hG.1.1 hG.1.2.1 (fun _ => thr) (fun _ => con) (fun q => absurd (show (1 : Int32) = 0 from q) (by decide))
        · rw [decide_eq_false g2]
          refine cm_M_sum_20 (d := d + 10 * (30 - k) + 26) hG.1.1 hG.1.2.1 (fun q => absurd rfl q) (fun q => absurd rfl q) (fun _ => mg_is (d := d + 10 * (30 - k) + 23) (g := 26) hG (ms_c256 hst) (by decide) (by decide) (fun _ => gj_nextI ?_))
          rw [decide_eq_true (show tk_g T L p = 26 by omega)]
          exact cm_M_sum_30 (d := d + 10 * (30 - k) + 26) hG.1.1 hG.1.2.1 (fun q => absurd (show (1 : Int32) = 0 from q) (by decide)) (fun _ => thr) (fun _ => con)
theorem rm_sum (hF : RM z l am T L sa lo mt_M_term [.ref (am 0), .retAddr 0, .retAddr 0] k 4 hb F) (hP : PairR am lo 14 kd_sum ex_2 (fun o => ∃ g, g < 35 ∧ og_sum g = o ∧ ¬ o = 0)) : RM z l am T L sa lo mt_M_sum [.ref (am 0), .retAddr 0, .retAddr 0] k 5 hb (sp_row T L F og_sum ex_2) := by
  intro d σ w p ops Q hG kk
  refine cm_M_sum (d := d + 10 * (30 - k) + 26) hG.1.1 (hF d σ w p ops _ hG (fun o H hMO => ?_))
  cases hr : F p ops with
  | error e =>
    rw [hr] at hMO
    obtain ⟨rfl, hB⟩ := hMO
    exact fun _ => gj_nextT (go_out (fun _ h => nomatch h) (kk _ _ (mo_err (by rw [sp_row, hr]) hB)))
  | ok x =>
    obtain ⟨m, p1, o1⟩ := x
    rw [hr] at hMO
    obtain ⟨n, σ1, w1, rfl, rfl, G1, ho, hp, F1, W1, B1, R1⟩ := hMO
    intro _
    refine gj_nextI (cm_M_sum_4 (d := d + 10 * (30 - k) + 26) G1.1.1 ?_)
    exact rm_sum_loop hF hP 301 0 m σ1 w1 p1 o1 n _ rfl (Nat.zero_le _) ho hp G1 F1 W1 B1 R1 (fun o H hM => kk o H (by rw [sp_row, hr]; exact hM))
end Rsum
section Rboth
variable {z : State} {l : Launch} {am : Nat → Nat} {T : Nat → Int32} {L sa lo k hb : Nat} {F : Nat → Nat → Pr}
theorem rm_both_loop (hF : RM z l am T L sa lo mt_M_negated [.ref (am 0), .retAddr 0] k 8 hb F) (hP : PairR am lo 10 (fun _ => 0) (fun _ => ex_and) (fun o => ∃ g, g < 35 ∧ og_and g = o ∧ ¬ o = 0)) {d : Nat} {Q : Outcome → Hp → Prop} {σ0 : Hp} {w0 : Wd} {p0 ops0 : Nat} :
    ∀ (f i : Nat) (m : Ex) (σ : Hp) (w : Wd) (p ops n : Nat), i + f = 301 → i ≤ ops → ops0 ≤ ops → p0 + 1 ≤ p → MG z σ am w T L sa lo p ops k → Fm am (fun _ => False) σ0 σ → WS w0 w → Bc T L σ0 σ p0 p → RepN m lo σ0.nx σ.nx σ am n (hb + (ops - ops0)) (2 * (p - p0)) → (∀ o H, MO z am T L sa lo σ0 w0 p0 ops0 k hb (sp_ops T L F og_and (fun _ => ex_and) f m p ops) o H → Q o H) → Go z l mt_M_both_0 (d + 10 * (30 - k) + 39) 5 [.ref (am 0), .ref n] [] (ov σ am 7 w) Q := by
  intro f
  induction f with
  | zero =>
    intro i m σ w p ops n hi hio ho0 hp0 hG hF0 hW0 hB0 hR kk
    have := hG.2.2.2.2.2.2.2.1
    omega
  | succ f ih =>
    intro i m σ w p ops n hi hio ho0 hp0 hG hF0 hW0 hB0 hR kk
    have hst : MSt z σ := hG.1.2.2.2.2.2.2.2.1
    have hpl : p ≤ L := hG.2.2.2.1
    have tl := tk_le (T := T) hpl
    have g35 : tk_g T L p < 35 := tl.2.2.2.2.2.1
    have w51 : w.I 0 51 = nI ops := hG.2.2.2.2.2.1
    have o300 : ops ≤ 300 := hG.2.2.2.2.2.2.2.1
    have c300 : 300 ≤ w.I 0 51 ↔ 300 ≤ ops := by
      rw [w51]
      constructor
      · intro q
        rcases Nat.lt_or_ge ops 300 with e | e
        · exact absurd (show nI 300 ≤ nI ops from q) (nI_ge e (by decide))
        · exact e
      · exact fun q => show nI 300 ≤ nI ops from nI_le q (by omega)
    by_cases h0 : og_and (tk_g T L p) = 0
    · have res := kk _ _ (mo_ok (show sp_ops T L F og_and (fun _ => ex_and) (f + 1) m p ops = _ from if_pos h0) hG ho0 hp0 hF0 hW0 hB0 hR)
      have ng : ¬ tk_g T L p = 1 := (by decide +kernel : ∀ g, g < 35 → og_and g = 0 → ¬ g = 1) _ g35 h0
      refine cm_M_both_0_5 (d := d + 10 * (30 - k) + 30) hG.1.1 (mg_is (d := d + 10 * (30 - k) + 27) (g := 1) hG (ms_c206 hst) (by decide) (by decide) (fun _ => gj_nextI ?_))
      rw [decide_eq_false ng]
      exact cm_M_both_0_11 (d := d + 10 * (30 - k) + 30) hG.1.1 hG.1.2.1 (fun _ => res) (fun q => absurd rfl q) (fun q => absurd rfl q)
    · have gg : tk_g T L p = 1 := (by decide +kernel : ∀ g, g < 35 → ¬ og_and g = 0 → g = 1) _ g35 h0
      have h33 : ¬ tk_g T L p = 33 := by omega
      have h34 : ¬ tk_g T L p = 34 := by omega
      have thr : 300 ≤ w.I 0 51 → Q (.threw (am 1)) (ov σ am 7 ((w.setI 1 79 0).setI 0 60 (w.I 0 45))) := fun q => kk _ _ (mo_err ((if_neg h0).trans (if_pos (c300.mp q))) (MB.pre hF0 hW0 hB0 hG.brk))
      have w51s : w.I 0 51 + 1 = nI (ops + 1) := by rw [w51]; exact nI_1 ops
      have nx : ¬ 300 ≤ ops → ∀ kd : Int32, kd = (fun _ => 0) (og_and (tk_g T L p)) → Go z l mt_M_next (d + 10 * (30 - k) + 38) 0 [.ref (am 0), .retAddr 0, .retAddr 0, .retAddr 0] [] (ov σ am 7 (w.setI 0 51 (nI (ops + 1)))) (fun o σ1 => hp_Le (ov σ am 7 (w.setI 0 51 (nI (ops + 1)))) σ1 → gj_next z l mt_M_both_0 (d + 10 * (30 - k) + 39) 19 [.ref (am 0), .ref n] [] Q o σ1) := fun q3 kd hkd => by
        have G1 := hG.seto (v := ops + 1) (by omega)
        have es : sp_ops T L F og_and (fun _ => ex_and) (f + 1) m p ops = match F (tk_e T L p) (ops + 1) with
            | .error e => .error e
            | .ok (m2, p2, o2) => sp_ops T L F og_and (fun _ => ex_and) f ((fun _ => ex_and) (og_and (tk_g T L p)) m m2) p2 o2 := (if_neg h0).trans (if_neg q3)
        refine mg_next (d := d + 10 * (30 - k) + 24) G1 h33 h34 (fun σ1 w1 G2 F1 S1 B1 _ => gj_nextV (cm_M_both_0_22 (d := d + 10 * (30 - k) + 30) G2.1.1 (hF d σ1 w1 _ _ _ G2 (fun o H hMO => ?_))))
        have W1 : WS w w1 := (WS.setI w _ (by decide) (by decide)).trans S1.ws
        cases hr : F (tk_e T L p) (ops + 1) with
        | error e =>
          rw [hr] at hMO es
          obtain ⟨rfl, hB⟩ := hMO
          exact fun _ => gj_nextT (go_out (fun _ h => nomatch h) (kk _ _ (mo_err es (MB.pre hF0 hW0 hB0 (MB.pre F1 W1 B1.bc hB)))))
        | ok x =>
          obtain ⟨m2, p2, o2⟩ := x
          rw [hr] at hMO es
          obtain ⟨y, σ2, w2, rfl, rfl, G3, ho, hp, F2, W2, B2, R2⟩ := hMO
          intro _
          have am7 := hG.2.2.2.2.2.2.2.2.2
          have R1 : RepN m lo σ0.nx σ.nx σ2 am n (hb + (ops - ops0)) (2 * (p - p0)) := hR.fm (F1.tr F2) (Nat.le_refl _) am7
          refine gj_nextI (go_wf fun hw2 => cm_M_both_0_30 (d := d + 10 * (30 - k) + 30) G3.1.1 (mo_pair (d := d + 10 * (30 - k) + 28) G3.1.1 R1.2.2.2.1 R2.2.2.2.1 (fun σ3 c3 f3 N3 n3 s3 _ => gj_nextI (cm_M_both_0_33 (d := d + 10 * (30 - k) + 30) c3 ?_))))
          obtain ⟨b01, b02⟩ := hB0
          obtain ⟨b11, b12, b13, b14⟩ := B1
          obtain ⟨b21, b22⟩ := B2
          have f1n := F1.1
          have f2n := F2.1
          have f0n := hF0.1
          refine ih (i + 1) ((fun _ => ex_and) (og_and (tk_g T L p)) m m2) σ3 w2 p2 o2 _ (by omega) (by omega) (by omega) (by omega) (G3.fr c3 f3 hw2) (((hF0.tr F1).tr F2).tr f3) (hW0.trans (W1.trans W2)) ⟨by omega, by omega⟩ ?_ (fun o H hM => kk o H (by rw [es]; exact hM))
          subst hkd
          have r1 := R1.fm f3 (by omega) am7
          have r2 := R2.fm f3 (Nat.le_refl _) am7
          exact (hP _ σ3 m m2 σ2.nx n y σ0.nx σ.nx σ1.nx σ2.nx σ3.nx (hb + (o2 - ops0) - 1) _ _ 0 0 ⟨_, g35, rfl, h0⟩ N3 f1n (Nat.le_refl _) (by omega) (fun r _ q => absurd q (Nat.not_lt_zero _)) (r1.mono (by omega) (Nat.le_refl _)) (r2.mono (by omega) (Nat.le_refl _))).mono (by omega) (by omega)
      refine cm_M_both_0_5 (d := d + 10 * (30 - k) + 30) hG.1.1 (mg_is (d := d + 10 * (30 - k) + 27) (g := 1) hG (ms_c206 hst) (by decide) (by decide) (fun _ => gj_nextI ?_))
      rw [decide_eq_true gg]
      refine cm_M_both_0_11 (d := d + 10 * (30 - k) + 30) hG.1.1 hG.1.2.1 (fun q => absurd (show (1 : Int32) = 0 from q) (by decide)) (fun _ => thr) (fun _ q => ?_)
      rw [w51s]
      exact nx (fun e => q (c300.mpr e)) 0 rfl
theorem rm_both (hF : RM z l am T L sa lo mt_M_negated [.ref (am 0), .retAddr 0] k 8 hb F) (hP : PairR am lo 10 (fun _ => 0) (fun _ => ex_and) (fun o => ∃ g, g < 35 ∧ og_and g = o ∧ ¬ o = 0)) : RM z l am T L sa lo mt_M_both_0 [.ref (am 0), .retAddr 0] k 9 hb (sp_row T L F og_and (fun _ => ex_and)) := by
  intro d σ w p ops Q hG kk
  refine cm_M_both_0 (d := d + 10 * (30 - k) + 30) hG.1.1 (hF d σ w p ops _ hG (fun o H hMO => ?_))
  cases hr : F p ops with
  | error e =>
    rw [hr] at hMO
    obtain ⟨rfl, hB⟩ := hMO
    exact fun _ => gj_nextT (go_out (fun _ h => nomatch h) (kk _ _ (mo_err (by rw [sp_row, hr]) hB)))
  | ok x =>
    obtain ⟨m, p1, o1⟩ := x
    rw [hr] at hMO
    obtain ⟨n, σ1, w1, rfl, rfl, G1, ho, hp, F1, W1, B1, R1⟩ := hMO
    intro _
    refine gj_nextI (cm_M_both_0_4 (d := d + 10 * (30 - k) + 30) G1.1.1 ?_)
    exact rm_both_loop hF hP 301 0 m σ1 w1 p1 o1 n rfl (Nat.zero_le _) ho hp G1 F1 W1 B1 R1 (fun o H hM => kk o H (by rw [sp_row, hr]; exact hM))
end Rboth
section Rexpr
variable {z : State} {l : Launch} {am : Nat → Nat} {T : Nat → Int32} {L sa lo k hb : Nat} {F : Nat → Nat → Pr}
theorem rm_expr_loop {kc : Nat} (hkc : k = kc + 1) (hF : RM z l am T L sa lo mt_M_both_0 [.ref (am 0), .retAddr 0] k 9 hb F) (hP : PairR am lo 11 (fun _ => 0) (fun _ => ex_or) (fun o => ∃ g, g < 35 ∧ og_or g = o ∧ ¬ o = 0)) {d : Nat} {Q : Outcome → Hp → Prop} {σ0 : Hp} {w0 : Wd} {p0 ops0 : Nat} :
    ∀ (f i : Nat) (m : Ex) (σ : Hp) (w : Wd) (p ops n : Nat), i + f = 301 → i ≤ ops → ops0 ≤ ops → p0 + 1 ≤ p → MG z σ am w T L sa lo p ops k → Fm am (fun _ => False) σ0 σ → WS w0 w → Bc T L σ0 σ p0 p → RepN m lo σ0.nx σ.nx σ am n (hb + (ops - ops0)) (2 * (p - p0)) → (∀ o H, MO z am T L sa lo σ0 w0 p0 ops0 kc hb (sp_ops T L F og_or (fun _ => ex_or) f m p ops) o H → Q o H) → Go z l mt_M_expression (d + 10 * (30 - k) + 40) 9 [.ref (am 0), .ref n] [] (ov σ am 7 w) Q := by
  intro f
  induction f with
  | zero =>
    intro i m σ w p ops n hi hio ho0 hp0 hG hF0 hW0 hB0 hR kk
    have := hG.2.2.2.2.2.2.2.1
    omega
  | succ f ih =>
    intro i m σ w p ops n hi hio ho0 hp0 hG hF0 hW0 hB0 hR kk
    have hst : MSt z σ := hG.1.2.2.2.2.2.2.2.1
    have hpl : p ≤ L := hG.2.2.2.1
    have tl := tk_le (T := T) hpl
    have g35 : tk_g T L p < 35 := tl.2.2.2.2.2.1
    have w51 : w.I 0 51 = nI ops := hG.2.2.2.2.2.1
    have o300 : ops ≤ 300 := hG.2.2.2.2.2.2.2.1
    have c300 : 300 ≤ w.I 0 51 ↔ 300 ≤ ops := by
      rw [w51]
      constructor
      · intro q
        rcases Nat.lt_or_ge ops 300 with e | e
        · exact absurd (show nI 300 ≤ nI ops from q) (nI_ge e (by decide))
        · exact e
      · exact fun q => show nI 300 ≤ nI ops from nI_le q (by omega)
    by_cases h0 : og_or (tk_g T L p) = 0
    · have G0 := hG.setk (v := kc) (by have := hG.2.2.2.2.2.2.1; omega)
      have e50 : w.I 0 50 - 1 = nI kc := by rw [hG.2.2.2.2.1, hkc]; exact pk_sub (a := kc + 1) (b := 1) (by omega)
      have res := kk _ _ (mo_ok (show sp_ops T L F og_or (fun _ => ex_or) (f + 1) m p ops = _ from if_pos h0) G0 ho0 hp0 hF0 (hW0.trans (WS.setI w _ (by decide) (by decide))) hB0 hR)
      have ng : ¬ tk_g T L p = 0 := (by decide +kernel : ∀ g, g < 35 → og_or g = 0 → ¬ g = 0) _ g35 h0
      refine cm_M_expression_9 (d := d + 10 * (30 - k) + 31) hG.1.1 (mg_is (d := d + 10 * (30 - k) + 28) (g := 0) hG (ms_c194 hst) (by decide) (by decide) (fun _ => gj_nextI ?_))
      rw [decide_eq_false ng]
      exact cm_M_expression_15 (d := d + 10 * (30 - k) + 31) hG.1.1 hG.1.2.1 (fun _ => by rw [e50]; exact res) (fun q => absurd rfl q) (fun q => absurd rfl q)
    · have gg : tk_g T L p = 0 := (by decide +kernel : ∀ g, g < 35 → ¬ og_or g = 0 → g = 0) _ g35 h0
      have h33 : ¬ tk_g T L p = 33 := by omega
      have h34 : ¬ tk_g T L p = 34 := by omega
      have thr : 300 ≤ w.I 0 51 → Q (.threw (am 1)) (ov σ am 7 ((w.setI 1 79 0).setI 0 60 (w.I 0 45))) := fun q => kk _ _ (mo_err ((if_neg h0).trans (if_pos (c300.mp q))) (MB.pre hF0 hW0 hB0 hG.brk))
      have w51s : w.I 0 51 + 1 = nI (ops + 1) := by rw [w51]; exact nI_1 ops
      have nx : ¬ 300 ≤ ops → ∀ kd : Int32, kd = (fun _ => 0) (og_or (tk_g T L p)) → Go z l mt_M_next (d + 10 * (30 - k) + 39) 0 [.ref (am 0), .retAddr 0, .retAddr 0, .retAddr 0] [] (ov σ am 7 (w.setI 0 51 (nI (ops + 1)))) (fun o σ1 => hp_Le (ov σ am 7 (w.setI 0 51 (nI (ops + 1)))) σ1 → gj_next z l mt_M_expression (d + 10 * (30 - k) + 40) 23 [.ref (am 0), .ref n] [] Q o σ1) := fun q3 kd hkd => by
        have G1 := hG.seto (v := ops + 1) (by omega)
        have es : sp_ops T L F og_or (fun _ => ex_or) (f + 1) m p ops = match F (tk_e T L p) (ops + 1) with
            | .error e => .error e
            | .ok (m2, p2, o2) => sp_ops T L F og_or (fun _ => ex_or) f ((fun _ => ex_or) (og_or (tk_g T L p)) m m2) p2 o2 := (if_neg h0).trans (if_neg q3)
        refine mg_next (d := d + 10 * (30 - k) + 25) G1 h33 h34 (fun σ1 w1 G2 F1 S1 B1 _ => gj_nextV (cm_M_expression_26 (d := d + 10 * (30 - k) + 31) G2.1.1 (hF d σ1 w1 _ _ _ G2 (fun o H hMO => ?_))))
        have W1 : WS w w1 := (WS.setI w _ (by decide) (by decide)).trans S1.ws
        cases hr : F (tk_e T L p) (ops + 1) with
        | error e =>
          rw [hr] at hMO es
          obtain ⟨rfl, hB⟩ := hMO
          exact fun _ => gj_nextT (go_out (fun _ h => nomatch h) (kk _ _ (mo_err es (MB.pre hF0 hW0 hB0 (MB.pre F1 W1 B1.bc hB)))))
        | ok x =>
          obtain ⟨m2, p2, o2⟩ := x
          rw [hr] at hMO es
          obtain ⟨y, σ2, w2, rfl, rfl, G3, ho, hp, F2, W2, B2, R2⟩ := hMO
          intro _
          have am7 := hG.2.2.2.2.2.2.2.2.2
          have R1 : RepN m lo σ0.nx σ.nx σ2 am n (hb + (ops - ops0)) (2 * (p - p0)) := hR.fm (F1.tr F2) (Nat.le_refl _) am7
          refine gj_nextI (go_wf fun hw2 => cm_M_expression_34 (d := d + 10 * (30 - k) + 31) G3.1.1 (mo_pair (d := d + 10 * (30 - k) + 29) G3.1.1 R1.2.2.2.1 R2.2.2.2.1 (fun σ3 c3 f3 N3 n3 s3 _ => gj_nextI (cm_M_expression_37 (d := d + 10 * (30 - k) + 31) c3 ?_))))
          obtain ⟨b01, b02⟩ := hB0
          obtain ⟨b11, b12, b13, b14⟩ := B1
          obtain ⟨b21, b22⟩ := B2
          have f1n := F1.1
          have f2n := F2.1
          have f0n := hF0.1
          refine ih (i + 1) ((fun _ => ex_or) (og_or (tk_g T L p)) m m2) σ3 w2 p2 o2 _ (by omega) (by omega) (by omega) (by omega) (G3.fr c3 f3 hw2) (((hF0.tr F1).tr F2).tr f3) (hW0.trans (W1.trans W2)) ⟨by omega, by omega⟩ ?_ (fun o H hM => kk o H (by rw [es]; exact hM))
          subst hkd
          have r1 := R1.fm f3 (by omega) am7
          have r2 := R2.fm f3 (Nat.le_refl _) am7
          exact (hP _ σ3 m m2 σ2.nx n y σ0.nx σ.nx σ1.nx σ2.nx σ3.nx (hb + (o2 - ops0) - 1) _ _ 0 0 ⟨_, g35, rfl, h0⟩ N3 f1n (Nat.le_refl _) (by omega) (fun r _ q => absurd q (Nat.not_lt_zero _)) (r1.mono (by omega) (Nat.le_refl _)) (r2.mono (by omega) (Nat.le_refl _))).mono (by omega) (by omega)
      refine cm_M_expression_9 (d := d + 10 * (30 - k) + 31) hG.1.1 (mg_is (d := d + 10 * (30 - k) + 28) (g := 0) hG (ms_c194 hst) (by decide) (by decide) (fun _ => gj_nextI ?_))
      rw [decide_eq_true gg]
      refine cm_M_expression_15 (d := d + 10 * (30 - k) + 31) hG.1.1 hG.1.2.1 (fun q => absurd (show (1 : Int32) = 0 from q) (by decide)) (fun _ => thr) (fun _ q => ?_)
      rw [w51s]
      exact nx (fun e => q (c300.mpr e)) 0 rfl
/-- an expression: one level deeper -/
theorem rm_expr (hF : k + 1 ≤ 30 → RM z l am T L sa lo mt_M_both_0 [.ref (am 0), .retAddr 0] (k + 1) 9 hb F) (hP : PairR am lo 11 (fun _ => 0) (fun _ => ex_or) (fun o => ∃ g, g < 35 ∧ og_or g = o ∧ ¬ o = 0)) : RM z l am T L sa lo mt_M_expression [.ref (am 0), .retAddr 0] k 0 hb (fun p ops => if 30 < k + 1 then .error (tk_s T L p) else sp_row T L F og_or (fun _ => ex_or) p ops) := by
  intro d σ w p ops Q hG kk
  have w50 : w.I 0 50 = nI k := hG.2.2.2.2.1
  have k30 : k ≤ 30 := hG.2.2.2.2.2.2.1
  have c30 : 30 ≤ w.I 0 50 ↔ 30 ≤ k := by
    rw [w50]
    constructor
    · intro q
      rcases Nat.lt_or_ge k 30 with e | e
      · exact absurd (show nI 30 ≤ nI k from q) (nI_ge e (by decide))
      · exact e
    · exact fun q => show nI 30 ≤ nI k from nI_le q (by omega)
  refine cm_M_expression (d := d + 10 * (30 - k) + 21) hG.1.1 hG.1.2.1 (fun q => kk _ _ (mo_err (if_pos (by have := c30.mp q; omega)) hG.brk)) (fun q => ?_)
  have k29 : k + 1 ≤ 30 := by
    have : ¬ 30 ≤ k := fun e => q (c30.mpr e)
    omega
  have es : (if 30 < k + 1 then .error (tk_s T L p) else sp_row T L F og_or (fun _ => ex_or) p ops : Pr) = sp_row T L F og_or (fun _ => ex_or) p ops := if_neg (by omega)
  rw [w50, nI_1]
  have G0 := hG.setk (v := k + 1) k29
  have W0 : WS w (w.setI 0 50 (nI (k + 1))) := WS.setI w _ (by decide) (by decide)
  have de : d + 10 * (30 - (k + 1)) + 30 + 9 = d + 10 * (30 - k) + 29 := by omega
  refine go_eq de (hF k29 d σ _ p ops _ G0 (fun o H hMO => ?_))
  cases hr : F p ops with
  | error e =>
    rw [hr] at hMO
    obtain ⟨rfl, hB⟩ := hMO
    exact fun _ => gj_nextT (go_out (fun _ h => nomatch h) (kk _ _ (mo_err (es.trans (by rw [sp_row, hr])) (MB.pre (Fm.rfl' _ _ _) W0 ⟨Nat.le_refl _, Nat.le_refl _⟩ hB))))
  | ok x =>
    obtain ⟨m, p1, o1⟩ := x
    rw [hr] at hMO
    obtain ⟨n, σ1, w1, rfl, rfl, G1, ho, hp, F1, W1, B1, R1⟩ := hMO
    intro _
    refine gj_nextI (cm_M_expression_8 (d := d + 10 * (30 - k) + 21) G1.1.1 ?_)
    have de2 : d + 10 * (30 - (k + 1)) + 40 = d + 10 * (30 - k) + 30 := by omega
    exact go_eq de2 (rm_expr_loop (kc := k) rfl (hF k29) hP 301 0 m σ1 w1 p1 o1 n rfl (Nat.zero_le _) ho hp G1 F1 (W0.trans W1) B1 R1 (fun o H hM => kk o H (show MO z am T L sa lo σ w p ops k hb (if 30 < k + 1 then .error (tk_s T L p) else sp_row T L F og_or (fun _ => ex_or) p ops) o H by rw [es, sp_row, hr]; exact hM)))
end Rexpr
