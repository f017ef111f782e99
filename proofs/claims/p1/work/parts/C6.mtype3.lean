/-! ===== the reference's checker: kinds of a function; of a CASE ===== -/
set_option maxRecDepth 100000 in
theorem fn_dec : ∀ j, j < 7 → sc_idx (sc_funs.getD j []) sc_funs = j := by decide +kernel
theorem fn_iff {cs : List Int32} {j : Nat} (hj : j < 7) : cs = sc_funs.getD j [] ↔ sc_idx cs sc_funs = j := by
  constructor
  · intro e
    rw [e]
    exact fn_dec j hj
  · intro e
    have := idx_gt9 (x := cs) sc_funs (by rw [e]; exact hj)
    rw [e] at this
    exact this.symm
theorem fn_take {o N : Nat} : sp_takes o N = (if o = 35 ∨ o = 36 ∨ o = 37 ∨ o = 38 then N == 1 else if o = 41 then N == 2 else if o = 39 then N == 3 else if o = 40 then decide (1 ≤ N) else decide (o ≠ 42)) := rfl
theorem kc_no {o : Nat} {ks : List Int32} (h : sp_takes o ks.length = false) : sp_kc o ks = (2, 0) := if_neg (by rw [h]; decide)
section MFun
variable {z : State} {l : Launch} {d : Nat} {σ : Hp} {am : Nat → Nat} {w : Wd} {Q : Outcome → Hp → Prop} {n b cap nm : Nat} {op kd : Int32} {ps : List Nat} {ks cs : List Int32}
theorem NT.cnt {i : Nat} (h : NT σ n b op kd ps cap ks) (hi : i ≤ 1000) : σ.I 68 n = nI i ↔ ks.length = i := by
  rw [h.1.2.2.2.2.2.2.1, h.2.1]
  have := h.2.2.1
  exact nI_eq (by omega) (by omega)
theorem mo_function (hc : CM z σ am) (hl : MLk w am) (hM : MSt z σ) (h : NT σ n b op kd ps cap ks) (hnm : σ.A 65 n = some nm) (hS : StrM σ am nm cs) (hcs : cs.length ≤ 1000)
    (k0 : (sp_kc (35 + sc_idx cs sc_funs) ks).1 = 0 → k4 (sp_kc (35 + sc_idx cs sc_funs) ks).2 → Q (.returned (some (.int (mty (sp_kc (35 + sc_idx cs sc_funs) ks).2)))) (ov σ am 7 w)) (k1 : ¬ (sp_kc (35 + sc_idx cs sc_funs) ks).1 = 0 → Q (.threw (am 1)) (ov σ am 7 (w.setI 1 79 (sp_kc (35 + sc_idx cs sc_funs) ks).1))) :
    Go z l mt_M_function (d + 12) 0 [.ref (am 0), .ref n, .retAddr 0, .retAddr 0] [] (ov σ am 7 w) Q := by
  obtain ⟨N1, hlk, hlc, hty⟩ := id h
  obtain ⟨n1, n2, n3, n4, n5, n6, n7, n8, n9⟩ := N1
  have s12 : σ.tag nm = 12 := hS.1.1
  have i7 : sc_idx cs sc_funs ≤ 7 := idx_le9 sc_funs
  have eqs : ∀ {j : Nat} {P : Outcome → Hp → Prop} {a : Nat}, j < 7 → StrO z σ a (sc_funs.getD j []) → P (.returned (some (.int (b2i (decide (sc_idx cs sc_funs = j)))))) (ov σ am 7 w) → Go z l mt_JString_equals (d + 11) 0 [.ref nm, .ref a, .retAddr 0] [] (ov σ am 7 w) P := fun {j P a} hj hO kk => by
    refine str_eq (d := d + 1) (hS.ov hc) (str_om hc hO) (by omega) (by have := (by decide : ∀ j, j < 7 → (sc_funs.getD j []).length ≤ 8) j hj; omega) ?_
    rw [dec_eq (fn_iff (cs := cs) hj)]
    exact kk
  have C5 : StrO z σ (strZ z "TruthBenchModel" 334) (sc_funs.getD 5 []) := ms_c334 hM
  have C6 : StrO z σ (strZ z "TruthBenchModel" 336) (sc_funs.getD 6 []) := ms_c336 hM
  have C0 : StrO z σ (strZ z "TruthBenchModel" 338) (sc_funs.getD 0 []) := ms_c338 hM
  have C1 : StrO z σ (strZ z "TruthBenchModel" 340) (sc_funs.getD 1 []) := ms_c340 hM
  have C2 : StrO z σ (strZ z "TruthBenchModel" 341) (sc_funs.getD 2 []) := ms_c341 hM
  have C3 : StrO z σ (strZ z "TruthBenchModel" 343) (sc_funs.getD 3 []) := ms_c343 hM
  have C4 : StrO z σ (strZ z "TruthBenchModel" 345) (sc_funs.getD 4 []) := ms_c345 hM
  have one : ¬ (b2i true : Int32) = 0 := by decide
  have zer : ¬ ¬ (b2i false : Int32) = 0 := by decide
  have no2 : sp_takes (35 + sc_idx cs sc_funs) ks.length = false → Q (.threw (am 1)) (ov σ am 7 (w.setI 1 79 2)) := fun e => by
    rw [kc_no e] at k1
    exact k1 (by decide)
  refine cm_M_function (d := d + 3) (b2 := nm) hc n1 s12 hnm (eqs (by decide) C5 (fun _ => gj_nextI ?_))
  generalize hg : sc_idx cs sc_funs = g at *
  have T : ∀ (m : Nat), g < 4 → (m = ks.length) → (sp_takes (35 + g) m = true ↔ m = 1) := fun m hg4 _ => by
    rw [fn_take, if_pos (by omega)]
    exact beq_iff_eq
  -- one argument
  have F1 : g < 4 → σ.I 68 n = 1 → Go z l mt_JString_equals (d + 11) 0 [.ref nm, .ref (strZ z "TruthBenchModel" 338), .retAddr 0] [] (ov σ am 7 w) (fun o σ1 => hp_Le (ov σ am 7 w) σ1 → gj_next z l mt_M_function (d + 12) 172 [.ref (am 0), .ref n, .ref nm, .int 1] [] Q o σ1) := fun g4 e1 => by
    have k1l : ks.length = 1 := (h.cnt (i := 1) (by omega)).mp e1
    have ht : sp_takes (35 + g) ks.length = true := (T _ g4 rfl).mpr k1l
    refine eqs (by decide) C0 (fun _ => gj_nextI ?_)
    by_cases g0 : g = 0
    · subst g0
      rw [decide_eq_true rfl]
      refine cm_M_function_175 (d := d + 3) hc s12 (fun q => absurd q one) (fun _ => ?_)
      exact bo_go (d := d + 1) (o := 35) (kw := 0) (rr := 0) hc hl h ht (by decide) rfl rfl (by decide) rfl (by decide) (fun v k => cm_M_function_187 (d := d + 3) hc k) (fun _ h => nomatch h) k0 k1
    · rw [decide_eq_false g0]
      refine cm_M_function_175 (d := d + 3) hc s12 (fun _ => ?_) (fun q => absurd q zer)
      refine eqs (by decide) C1 (fun _ => gj_nextI ?_)
      by_cases g1 : g = 1
      · subst g1
        rw [decide_eq_true rfl]
        refine cm_M_function_195 (d := d + 3) (b2 := b) (b6 := n) hc n1 n5 n1 (fun q => absurd q one) (fun q => absurd q one) (fun q => absurd q one) (fun q => absurd q one) (fun q => absurd q one) (fun _ => ?_)
        exact bo_go (d := d + 1) (o := 36) (kw := 1) (rr := 0) hc hl h ht (by decide) rfl rfl (by decide) rfl (by decide) (fun v k => cm_M_function_207 (d := d + 3) hc k) (fun _ h => nomatch h) k0 k1
      · rw [decide_eq_false g1]
        have v3 : ¬ (1 : Int32) = 0 := by decide
        refine cm_M_function_195 (d := d + 3) (b2 := b) (b6 := n) hc n1 n5 n1 (fun _ q => absurd q v3) (fun _ q => absurd q v3) (fun _ q => absurd q v3) (fun _ q => absurd q v3) (fun _ _ => ?_) (fun q => absurd q zer)
        rcases (by omega : g = 2 ∨ g = 3) with e | e
        · subst e
          exact bo_go (d := d + 1) (o := 37) (kw := 1) (rr := 1) hc hl h ht (by decide) rfl rfl (by decide) rfl (by decide) (fun v k => cm_M_function_221 (d := d + 3) hc k) (fun _ h => nomatch h) k0 k1
        · subst e
          exact bo_go (d := d + 1) (o := 38) (kw := 1) (rr := 1) hc hl h ht (by decide) rfl rfl (by decide) rfl (by decide) (fun v k => cm_M_function_221 (d := d + 3) hc k) (fun _ h => nomatch h) k0 k1
  have B1 : g < 4 → ¬ σ.I 68 n = 1 → Q (.threw (am 1)) (ov σ am 7 (w.setI 1 79 2)) := fun g4 q => no2 (by
    cases e : sp_takes (35 + g) ks.length with
    | false => rfl
    | true => exact absurd ((h.cnt (i := 1) (by omega)).mpr ((T _ g4 rfl).mp e)) q)
  by_cases g5 : g = 5
  · subst g5
    rw [decide_eq_true rfl]
    refine cm_M_function_12 (d := d + 3) hc s12 (fun _ => ?_) (fun q => absurd q one)
    refine eqs (by decide) C5 (fun _ => gj_nextI ?_)
    rw [decide_eq_true rfl]
    have cz : σ.I 68 n ≤ 0 ↔ ks.length ≤ 0 := by rw [hlk]; exact h.le (i := 0) (by omega)
    refine cm_M_function_33 (d := d + 3) hc hl n1 (fun q => absurd q one) (fun q => absurd q one) (fun _ q => no2 ?_) (fun _ q => ?_)
    · have := cz.mp q
      show decide (1 ≤ ks.length) = false
      exact decide_eq_false (by omega)
    · have k1l : 1 ≤ ks.length := by
        rcases Nat.lt_or_ge 0 ks.length with e | e
        · exact e
        · exact absurd (cz.mpr e) q
      have ht : sp_takes 40 ks.length = true := decide_eq_true k1l
      have ek : sp_kc 40 ks = sp_kl 40 ks.length ks 0 3 0 := if_pos ht
      refine al_go (d := d) (o := 40) hc hl h ht (by decide) rfl rfl (fun q q4 => cm_M_function_73 (d := d + 3) hc ?_) (fun _ h => nomatch h) k1
      have k0' := k0
      rw [show 35 + 5 = 40 from rfl, ek] at k0'
      exact k0' q q4
  · rw [decide_eq_false g5]
    refine cm_M_function_12 (d := d + 3) hc s12 (fun q => absurd q zer) (fun _ => ?_)
    refine eqs (by decide) C6 (fun _ => gj_nextI ?_)
    by_cases g6 : g = 6
    · subst g6
      rw [decide_eq_true rfl]
      refine cm_M_function_22 (d := d + 3) hc s12 (fun q => absurd q one) (fun _ => ?_)
      refine eqs (by decide) C5 (fun _ => gj_nextI ?_)
      rw [decide_eq_false g5]
      refine cm_M_function_33 (d := d + 3) hc hl n1 (fun _ q => no2 ?_) (fun _ q => ?_) (fun q => absurd q zer) (fun q => absurd q zer)
      · show (ks.length == 2) = false
        refine beq_false_of_ne (fun e => q ?_)
        exact (h.cnt (i := 2) (by omega)).mpr e
      · have k2l : ks.length = 2 := (h.cnt (i := 2) (by omega)).mp q
        have ht : sp_takes 41 ks.length = true := by rw [k2l]; rfl
        have ek : sp_kc 41 ks = sp_kl 41 ks.length ks 0 3 0 := if_pos ht
        refine al_go (d := d) (o := 41) hc hl h ht (by decide) rfl rfl (fun q q4 => cm_M_function_73 (d := d + 3) hc ?_) (fun _ h => nomatch h) k1
        have k0' := k0
        rw [show 35 + 6 = 41 from rfl, ek] at k0'
        exact k0' q q4
    · rw [decide_eq_false g6]
      refine cm_M_function_22 (d := d + 3) hc s12 (fun _ => ?_) (fun q => absurd q zer)
      refine eqs (by decide) C0 (fun _ => gj_nextI ?_)
      by_cases g0 : g = 0
      · rw [decide_eq_true g0]
        exact cm_M_function_81 (d := d + 3) hc hl n1 s12 (fun _ q => B1 (by omega) q) (fun _ q => F1 (by omega) q) (fun q => absurd q one)
      · rw [decide_eq_false g0]
        refine cm_M_function_81 (d := d + 3) hc hl n1 s12 (fun q => absurd q zer) (fun q => absurd q zer) (fun _ => ?_)
        refine eqs (by decide) C1 (fun _ => gj_nextI ?_)
        by_cases g1 : g = 1
        · rw [decide_eq_true g1]
          exact cm_M_function_91 (d := d + 3) hc hl n1 s12 (fun _ q => B1 (by omega) q) (fun _ q => F1 (by omega) q) (fun q => absurd q one)
        · rw [decide_eq_false g1]
          refine cm_M_function_91 (d := d + 3) hc hl n1 s12 (fun q => absurd q zer) (fun q => absurd q zer) (fun _ => ?_)
          refine eqs (by decide) C2 (fun _ => gj_nextI ?_)
          by_cases g2 : g = 2
          · rw [decide_eq_true g2]
            exact cm_M_function_101 (d := d + 3) hc hl n1 s12 (fun _ q => B1 (by omega) q) (fun _ q => F1 (by omega) q) (fun q => absurd q one)
          · rw [decide_eq_false g2]
            refine cm_M_function_101 (d := d + 3) hc hl n1 s12 (fun q => absurd q zer) (fun q => absurd q zer) (fun _ => ?_)
            refine eqs (by decide) C3 (fun _ => gj_nextI ?_)
            by_cases g3 : g = 3
            · rw [decide_eq_true g3]
              exact cm_M_function_111 (d := d + 3) hc hl s12 n1 (fun q => absurd q one) (fun _ q => B1 (by omega) q) (fun _ q => F1 (by omega) q)
            · rw [decide_eq_false g3]
              refine cm_M_function_111 (d := d + 3) hc hl s12 n1 (fun _ => ?_) (fun q => absurd q zer) (fun q => absurd q zer)
              refine eqs (by decide) C4 (fun _ => gj_nextI ?_)
              by_cases g4 : g = 4
              · subst g4
                rw [decide_eq_true rfl]
                refine cm_M_function_148 (d := d + 3) hc hl n1 s12 (fun q => absurd q one) (fun _ q => no2 ?_) (fun _ q => ?_)
                · show (ks.length == 3) = false
                  exact beq_false_of_ne (fun e => q ((h.cnt (i := 3) (by omega)).mpr e))
                · have k3l : ks.length = 3 := (h.cnt (i := 3) (by omega)).mp q
                  have ht : sp_takes 39 ks.length = true := by rw [k3l]; rfl
                  refine eqs (by decide) C0 (fun _ => gj_nextI ?_)
                  rw [decide_eq_false g0]
                  refine cm_M_function_175 (d := d + 3) hc s12 (fun _ => ?_) (fun q => absurd q zer)
                  refine eqs (by decide) C1 (fun _ => gj_nextI ?_)
                  rw [decide_eq_false g1]
                  obtain ⟨a1, a2, a3⟩ := hty 0 (by omega)
                  obtain ⟨b1, b2, b3⟩ := hty 1 (by omega)
                  obtain ⟨c1, c2, c3⟩ := hty 2 (by omega)
                  have ek : sp_kc 39 ks = (if sp_fits (ks.getD 2 0) 0 then (if sp_fits (ks.getD 1 0) 0 then (if sp_fits (ks.getD 0 0) 1 then 0 else 1) else 1) else 1, 1) := by
                    have el : ks = [ks.getD 0 0, ks.getD 1 0, ks.getD 2 0] := by
                      match ks, k3l with
                      | [x, y, t], _ => rfl
                    rw [show sp_kc 39 ks = _ from if_pos ht]
                    rw [el]
                    rfl
                  rw [show 35 + 4 = 39 from rfl, ek] at k0 k1
                  have bad : ¬ (sp_fits (ks.getD 0 0) 1 ∧ sp_fits (ks.getD 1 0) 0 ∧ sp_fits (ks.getD 2 0) 0) → Q (.threw (am 1)) (ov σ am 7 (w.setI 1 79 1)) := fun q9 => by
                    have e1 : (if sp_fits (ks.getD 2 0) 0 then (if sp_fits (ks.getD 1 0) 0 then (if sp_fits (ks.getD 0 0) 1 then (0 : Int32) else 1) else 1) else 1) = 1 := by
                      by_cases x2 : sp_fits (ks.getD 2 0) 0
                      · rw [if_pos x2]
                        by_cases x1 : sp_fits (ks.getD 1 0) 0
                        · rw [if_pos x1, if_neg (fun x0 => q9 ⟨x0, x1, x2⟩)]
                        · rw [if_neg x1]
                      · rw [if_neg x2]
                    rw [e1] at k1
                    exact k1 (by decide)
                  refine cm_M_function_195 (d := d + 3) (b2 := b) (b6 := ps.getD 0 0) hc n1 n5 a1 (fun _ _ => n4) (fun _ _ => by rw [n6]; exact vp_in_nI (n := 0) (by omega) (by omega)) (fun _ _ => n9 0 (by omega)) (fun _ _ => ?_) (fun _ q => absurd rfl q) (fun q => absurd q zer)
                  rw [a2]
                  refine mo_fits (d := d + 2) (y := 1) hc hl a3 (by decide) (fun x0 _ => gj_nextV ?_) (fun x0 _ => gj_nextT (go_out (fun _ h => nomatch h) (bad (fun q => x0 q.1))))
                  refine cm_M_function_237 (d := d + 3) (b2 := b) (b6 := ps.getD 1 0) hc n1 n5 b1 n4 (by rw [n6]; exact vp_in_nI (n := 1) (by omega) (by omega)) (n9 1 (by omega)) ?_
                  rw [b2]
                  refine mo_fits (d := d + 2) (y := 0) hc hl b3 (by decide) (fun x1 _ => gj_nextV ?_) (fun x1 _ => gj_nextT (go_out (fun _ h => nomatch h) (bad (fun q => x1 q.2.1))))
                  refine cm_M_function_252 (d := d + 3) (b2 := b) (b6 := ps.getD 2 0) hc n1 n5 c1 n4 (by rw [n6]; exact vp_in_nI (n := 2) (by omega) (by omega)) (n9 2 (by omega)) ?_
                  rw [c2]
                  refine mo_fits (d := d + 2) (y := 0) hc hl c3 (by decide) (fun x2 _ => gj_nextV ?_) (fun x2 _ => gj_nextT (go_out (fun _ h => nomatch h) (bad (fun q => x2 q.2.2))))
                  refine cm_M_function_267 (d := d + 3) hc ?_
                  rw [if_pos x2, if_pos x1, if_pos x0] at k0
                  exact k0 rfl (by decide)
              · rw [decide_eq_false g4]
                have g7 : g = 7 := by omega
                refine cm_M_function_148 (d := d + 3) hc hl n1 s12 (fun _ => no2 ?_) (fun q => absurd q zer) (fun q => absurd q zer)
                rw [g7]
                rfl
end MFun
