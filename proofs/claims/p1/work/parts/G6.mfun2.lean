/-! ===== the reference: a function's node ===== -/
section MFun2
variable {lo : Nat} {am : Nat → Nat}
theorem rn_fun : FunR am lo := by
  intro z0 σ0 rs n b nm cap u h kv cs hN am7 hlo hrs hA hS hcs hnlo hnhi hr9
  obtain ⟨hn, hb⟩ := hN.rg
  have hPE := hN.2.2.2.2.2.2.2.2.pe (Nat.le_refl u) (Nat.le_refl σ0.nx)
  have hex := hPE.ex
  have i7 : sc_idx cs sc_funs ≤ 7 := idx_le9 sc_funs
  have H : FnH lo u σ0.nx σ0 am n b nm cap cs (rs.map Prod.snd) := ⟨hN.1, hn, hb, hN.2.1.2, hA, hS, hcs, Or.inr ⟨hnlo, hnhi, Or.inr (Or.inl hS.1.1)⟩, fun r hr => Or.inr ⟨(hr9 r hr).1, (hr9 r hr).2, Or.inr (Or.inr (by
    obtain ⟨⟨-, -, r9, hr8, tr, -⟩, -⟩ := hS
    obtain rfl : r9 = r := Option.some.inj (hr8.symm.trans hr)
    exact tr))⟩⟩
  refine ⟨hlo, hn.1, hn.2.1, hN.1.1, fun_es _ _ (by omega) (by omega) hex, nb_rnk (F := fun _ ks => sp_kc (35 + sc_idx cs sc_funs) ks) hN (by omega) (fun kn _ => fun_hm _ _ (by omega) (by omega) kn) (fun z l d σ w kn Q ks Km hz A N _ => ?_), ?_, hn.2.2⟩
  · obtain ⟨v0, hv⟩ := Km.2.2.2.1
    obtain ⟨-, hA', hS'⟩ := H.at A
    exact ty_fun Km.1 Km.2.1 Km.2.2.1 hv N hA' hS' hcs
  intro z l d σ w kn R q Q0 E A F g c9 b9 kO0 kE0
  obtain ⟨N', hA', hS'⟩ := H.at A
  refine go_eq (show d + 2 * h + 13 + 9 = d + 2 * (h + 1) + 20 by omega) (ev_3 (d := d + 2 * h + 13) E.1 E.2.1 N' ?_)
  have kO : ((ex_fun (35 + sc_idx cs sc_funs) (rs.map Prod.fst)).2.1 R).1 = 0 → VR z am R σ w q ((ex_fun (35 + sc_idx cs sc_funs) (rs.map Prod.fst)).2.1 R).2 (kv + 2) (fun o σ1 => hp_Le (ov σ am 7 w) σ1 → gj_next z l mt_M_eval (d + 2 * h + 13 + 9) 93 [.ref (am 0), .ref n, .retAddr 0, .retAddr 0, .retAddr 0, .retAddr 0, .retAddr 0] [] Q0 o σ1) := fun e σ' w' q' v E' F' W' V' _ => gj_nextI (cm_M_eval_96 (d := d + 2 * h + 13) E'.1 (kO0 e σ' w' q' v E' F' W' V'))
  have kE : ¬ ((ex_fun (35 + sc_idx cs sc_funs) (rs.map Prod.fst)).2.1 R).1 = 0 → VE z am R σ w q ((ex_fun (35 + sc_idx cs sc_funs) (rs.map Prod.fst)).2.1 R).1 (kv + 2) (fun o σ1 => hp_Le (ov σ am 7 w) σ1 → gj_next z l mt_M_eval (d + 2 * h + 13 + 9) 93 [.ref (am 0), .ref n, .retAddr 0, .retAddr 0, .retAddr 0, .retAddr 0, .retAddr 0] [] Q0 o σ1) := fun e σ' w' q' E' F' W' _ => gj_nextT (go_out (fun _ h => nomatch h) (kE0 e σ' w' q' E' F' W'))
  generalize (fun o σ1 => hp_Le (ov σ am 7 w) σ1 → gj_next z l mt_M_eval (d + 2 * h + 13 + 9) 93 [.ref (am 0), .ref n, .retAddr 0, .retAddr 0, .retAddr 0, .retAddr 0, .retAddr 0] [] Q0 o σ1) = Q at kO kE ⊢
  clear kO0 kE0
  have one : ¬ (1 : Int32) = 0 := by decide
  rcases fun_cases (35 + sc_idx cs sc_funs) (rs.map Prod.fst) (by omega) (by omega) with ⟨h9, e⟩ | ⟨m, hms, ho, e⟩ | ⟨m1, m2, hms, ho, e⟩ | ⟨m1, m2, m3, hms, ho, e⟩ | ⟨h9, e⟩
  · -- COALESCE
    rw [e] at kO kE c9
    obtain ⟨zs, -⟩ := ckn_ok (o := 40) c9
    refine cm_M_called (d := d + 2 * h + 12) (b2 := nm) E.1 N'.1 hS'.1.1 hA' (fn_eq (j := 5) E.1 hS' hcs (by decide) (ms_c334 E.2.2.1) (fun _ => gj_nextI ?_))
    rw [decide_eq_true (show sc_idx cs sc_funs = 5 by omega)]
    refine cm_M_called_10 (d := d + 2 * h + 12) (b2 := b) (b6 := 0) E.1 N'.1 N'.2.2.2.2.1 (fun q9 => absurd (show (1 : Int32) = 0 from q9) one) (fun q9 => absurd (show (1 : Int32) = 0 from q9) one) (fun q9 => absurd (show (1 : Int32) = 0 from q9) one) (fun q9 => absurd (show (1 : Int32) = 0 from q9) one) (fun _ => ?_)
    refine mo_co_loop (d := d) g H rs 0 kv (kv + 2) σ w q hPE (by rw [List.length_map, Nat.zero_add]) (fun j hj => ?_) E A F zs (by omega) b9 kO kE
    rw [Nat.zero_add]
    simp [List.getD, hj]
  · -- ABS, LENGTH, UPPER, LOWER
    rw [e] at kO kE c9
    obtain ⟨x, rfl⟩ : ∃ x, rs = [(m, x)] := by
      match rs, hms with
      | [(m9, x)], hms => exact ⟨x, by rw [show m9 = m from (List.cons.inj hms).1]⟩
    obtain ⟨a1, c1, k1, k1', s1, r1, -, e1⟩ := hPE
    obtain ⟨z1, z3⟩ := ck1_0 c9
    have ev : (ex_1 (35 + sc_idx cs sc_funs) m).2.1 R = if ¬ (m.2.1 R).1 = 0 then m.2.1 R else if (m.2.1 R).2.1 = 3 then (0, v_null) else sp_st (35 + sc_idx cs sc_funs) (m.2.1 R).2 v_null v_null := rfl
    rw [ev] at kO kE
    refine mo_ev0 (d := d) (x1 := x) H (show 1 ≤ 1 by decide) rfl (by omega) s1 r1 E A F g z1 (by omega) (fun e0 => ?_) (fun e0 σ1 w1 q1 v1 E1 F1 W1 V1 A1 Fr1 => ?_)
    · rw [if_pos e0] at kE
      exact (kE e0).mv (EvF.rfl' am σ q) (WE.rfl' w) (by omega)
    rw [if_neg (fun q => q e0)] at kO kE
    have ty1 := r1.2.2.2.2.1.1 kn R _ g (show m.1 kn = (0, (m.1 kn).2) from Prod.ext z1 rfl) e0
    have kb1 := F1.2.2.1
    have o1 := ty1.1.k4
    refine mo_pre1 H rfl E1 A1 (mo_124 (kv := 1) H E1 A1 (by omega) V1 V1 V1 o1 o1 o1 (by omega) (Nat.le_refl _) (fun e3 => ?_) (fun n3 _ _ => ?_))
    · have x3 : (m.2.1 R).2.1 = 3 := by rcases e3 with e3 | e3 | e3 <;> exact e3
      rw [if_pos x3] at kO
      exact (kO rfl).mv F1 W1 (by omega)
    · rw [if_neg n3] at kO kE
      have tk : sp_takes (35 + sc_idx cs sc_funs) 1 = true := by
        unfold sp_takes
        rw [if_pos ho]
        rfl
      refine mo_one1 (o := 35 + sc_idx cs sc_funs) (kv := 1) H E1 A1 Fr1 rfl (by omega) V1 ty1.1 (fun e35 => ?_) (fun n35 => ?_) (by omega) (Nat.le_refl _) (fun e => (kO e).mv F1 W1 (by omega)) (fun e => (kE e).mv F1 W1 (by omega))
      · have f1 := kc_due1 (o := 35 + sc_idx cs sc_funs) (kw := 0) tk (by omega) (by rw [e35]; decide) (by decide) z3
        exact (ty_ft ty1 f1 (by decide) (by decide)).resolve_left n3
      · have f1 := kc_due1 (o := 35 + sc_idx cs sc_funs) (kw := 1) tk (by omega) (by
          rcases ho with e | e | e | e
          · exact absurd e n35
          · rw [e]; decide
          · rw [e]; decide
          · rw [e]; decide) (by decide) z3
        exact (ty_ft ty1 f1 (by decide) (by decide)).resolve_left n3
  · -- NULLIF
    rw [e] at kO kE c9
    obtain ⟨x, y, rfl⟩ : ∃ x y, rs = [(m1, x), (m2, y)] := by
      match rs, hms with
      | [(m9, x), (m8, y)], hms =>
        have h8 := (List.cons.inj hms).2
        exact ⟨x, y, by rw [show m9 = m1 from (List.cons.inj hms).1, show m8 = m2 from (List.cons.inj h8).1]⟩
    obtain ⟨a1, c1, k1, k1', s1, r1, ⟨a2, c2, k2, k2', s2, r2, -, e2⟩, e1⟩ := hPE
    obtain ⟨z1, z2, z3⟩ := ck2_0 (o := 41) c9
    have ev : (ex_nullif m1 m2).2.1 R = if ¬ (m1.2.1 R).1 = 0 then m1.2.1 R else if ¬ (m2.2.1 R).1 = 0 then m2.2.1 R else (0, v_nullif (m1.2.1 R).2 (m2.2.1 R).2) := rfl
    rw [ev] at kO kE
    refine mo_ev0 (d := d) (x1 := x) H (show 1 ≤ 2 by decide) rfl (by omega) s1 r1 E A F g z1 (by omega) (fun e0 => ?_) (fun e0 σ1 w1 q1 v1 E1 F1 W1 V1 A1 Fr1 => ?_)
    · rw [if_pos e0] at kE
      exact (kE e0).mv (EvF.rfl' am σ q) (WE.rfl' w) (by omega)
    rw [if_neg (fun q => q e0)] at kO kE
    have kb1 := F1.2.2.1
    refine mo_ev1 (d := d) (x1 := y) H (show 2 ≤ 2 by decide) rfl s2 r2 E1 A1 Fr1 g z2 (by omega) (fun e1 => ?_) (fun e1 σ2 w2 q2 v2 E2 F2 W2 V2 A2 Fr2 => ?_)
    · rw [if_pos e1] at kE
      exact (kE e1).mv F1 W1 (by omega)
    rw [if_neg (fun q => q e1)] at kO kE
    have kb2 := F2.2.2.1
    have ty1 := r1.2.2.2.2.1.1 kn R _ g (show m1.1 kn = (0, (m1.1 kn).2) from Prod.ext z1 rfl) e0
    have ty2 := r2.2.2.2.2.1.1 kn R _ g (show m2.1 kn = (0, (m2.1 kn).2) from Prod.ext z2 rfl) e1
    have sm := ty_same ty1 ty2 (kc_sm2 (o := 41) rfl (by decide) rfl rfl z3) (r1.2.2.2.2.1.2 kn R g z1)
    have V12 := V1.mv F2
    have F02 := F1.trans F2 (Nat.le_refl _)
    have W02 := W1.trans W2
    obtain ⟨N2, hA2, hS2⟩ := H.at A2
    refine mo_pre2 H rfl E2 A2 ?_
    rw [decide_eq_true (show sc_idx cs sc_funs = 6 by omega)]
    refine cm_M_called_124 (d := d + 2 * h + 12) (b5 := nm) E2.1 V12.1.1 V2.1.1 V12.1.1 N2.1 hS2.1.1 (fun q9 => absurd (show (1 : Int32) = 0 from q9) one) (fun q9 => absurd (show (1 : Int32) = 0 from q9) one) (fun q9 => absurd (show (1 : Int32) = 0 from q9) one) (fun q9 => absurd (show (1 : Int32) = 0 from q9) one) (fun q9 => absurd (show (1 : Int32) = 0 from q9) one) (fun _ => go_eq (show d + 2 * h + 9 + 11 = d + 2 * h + 12 + 8 by omega) (mo_told (d := d + 2 * h + 9) (kd := 0) (kv := 1) E2 (by omega) V12.1 V2.1 ty1.1.k4 ty2.1.k4 sm (by decide) (Nat.le_refl _) (fun σ3 w3 q3 v3 E3 F3 W3 V3 _ => gj_nextI ?_)))
    have kb3 := F3.2.2.1
    have reta : v_nullif (m1.2.1 R).2 (m2.2.1 R).2 = (m1.2.1 R).2 → Q (.returned (some (.ref v1))) (ov σ3 am 7 w3) := fun en => by
      rw [en] at kO
      exact kO rfl σ3 w3 q3 v1 E3 (F02.trans F3 (by omega)) (W02.trans W3) (V12.mv F3)
    by_cases e3 : (m1.2.1 R).2.1 = 3 ∨ (m2.2.1 R).2.1 = 3
    · rw [if_pos e3] at V3
      have n16 : ¬ σ3.I 70 v3 = 16 := by rw [show σ3.I 70 v3 = 0 from V3.1.2.1]; decide
      exact cm_M_called_134 (d := d + 2 * h + 12) E3.1 V3.1.1 (fun _ => reta (if_neg (fun r => e3.elim r.1 r.2.1))) (fun q9 => absurd q9 n16) (fun q9 => absurd q9 n16)
    · rw [if_neg e3] at V3
      have V3' : VF σ3 am q3 v3 (v_bool (decide (sp_cmp (m1.2.1 R).2 (m2.2.1 R).2 = 0))) := V3
      have t16 : σ3.I 70 v3 = 16 := V3'.1.2.1
      have j9 : σ3.J 71 v3 = (v_bool (decide (sp_cmp (m1.2.1 R).2 (m2.2.1 R).2 = 0))).2.1 := V3'.1.2.2.1 (Or.inr rfl)
      by_cases e4 : sp_cmp (m1.2.1 R).2 (m2.2.1 R).2 = 0
      · rw [decide_eq_true e4] at j9
        have l0 : lg_cmp (σ3.J 71 v3) 1 = 0 := lgc_eq0.mpr j9
        have en : v_nullif (m1.2.1 R).2 (m2.2.1 R).2 = v_null := if_pos ⟨fun r => e3 (Or.inl r), fun r => e3 (Or.inr r), e4⟩
        rw [en] at kO
        exact cm_M_called_134 (d := d + 2 * h + 12) E3.1 V3.1.1 (fun q9 => absurd t16 q9) (fun _ q9 => absurd l0 q9) (fun _ _ => go_eq (show d + 2 * h + 11 + 9 = d + 2 * h + 12 + 8 by omega) (mo_null (d := d + 2 * h + 11) (kv := 1) E3 (by omega) (Nat.le_refl _) (fun σ' w' q' v' E' F' W' V' _ => gj_nextI (cm_M_called_146 (d := d + 2 * h + 12) E'.1 (kO rfl σ' w' q' v' E' ((F02.trans F3 (Nat.le_refl _)).trans F' (by omega)) ((W02.trans W3).trans W') V')))))
      · rw [decide_eq_false e4] at j9
        have l0 : ¬ lg_cmp (σ3.J 71 v3) 1 = 0 := fun q9 => by
          have := (lgc_eq0.mp q9).symm.trans j9
          exact absurd this (by decide)
        exact cm_M_called_134 (d := d + 2 * h + 12) E3.1 V3.1.1 (fun q9 => absurd t16 q9) (fun _ _ => reta (if_neg (fun r => e4 r.2.2))) (fun _ q9 => absurd q9 l0)
  · -- SUBSTR
    rw [e] at kO kE c9
    obtain ⟨x, y, y3, rfl⟩ : ∃ x y y3, rs = [(m1, x), (m2, y), (m3, y3)] := by
      match rs, hms with
      | [(m9, x), (m8, y), (m7, y3)], hms =>
        have h8 := (List.cons.inj hms).2
        have h7 := (List.cons.inj h8).2
        exact ⟨x, y, y3, by rw [show m9 = m1 from (List.cons.inj hms).1, show m8 = m2 from (List.cons.inj h8).1, show m7 = m3 from (List.cons.inj h7).1]⟩
    obtain ⟨a1, c1, k1, k1', s1, r1, ⟨a2, c2, k2, k2', s2, r2, ⟨a3, c3, k3, k3', s3, r3, -, e3⟩, e2⟩, e1⟩ := hPE
    obtain ⟨z1, z2, z3, ze⟩ := ck3_ok (o := 39) c9
    have zk : (sp_kc 39 [(m1.1 kn).2, (m2.1 kn).2, (m3.1 kn).2]).1 = 0 := by rw [← ze]; exact c9
    obtain ⟨f1, f2, f3⟩ := kc_substr zk
    have ev : (ex_substr m1 m2 m3).2.1 R = if ¬ (m1.2.1 R).1 = 0 then m1.2.1 R else if ¬ (m2.2.1 R).1 = 0 then m2.2.1 R else if ¬ (m3.2.1 R).1 = 0 then m3.2.1 R else if (m1.2.1 R).2.1 = 3 ∨ (m2.2.1 R).2.1 = 3 ∨ (m3.2.1 R).2.1 = 3 then (0, v_null) else sp_text 39 (m1.2.1 R).2 (m2.2.1 R).2 (m3.2.1 R).2 := rfl
    rw [ev] at kO kE
    refine mo_ev0 (d := d) (x1 := x) H (show 1 ≤ 3 by decide) rfl (by omega) s1 r1 E A F g z1 (by omega) (fun e0 => ?_) (fun e0 σ1 w1 q1 v1 E1 F1 W1 V1 A1 Fr1 => ?_)
    · rw [if_pos e0] at kE
      exact (kE e0).mv (EvF.rfl' am σ q) (WE.rfl' w) (by omega)
    rw [if_neg (fun q => q e0)] at kO kE
    have kb1 := F1.2.2.1
    refine mo_ev1 (d := d) (x1 := y) H (show 2 ≤ 3 by decide) rfl s2 r2 E1 A1 Fr1 g z2 (by omega) (fun e1 => ?_) (fun e1 σ2 w2 q2 v2 E2 F2 W2 V2 A2 Fr2 => ?_)
    · rw [if_pos e1] at kE
      exact (kE e1).mv F1 W1 (by omega)
    rw [if_neg (fun q => q e1)] at kO kE
    have kb2 := F2.2.2.1
    have F02 := F1.trans F2 (Nat.le_refl _)
    have W02 := W1.trans W2
    refine mo_ev2 (d := d) (x1 := y3) H (show 3 ≤ 3 by decide) rfl s3 r3 E2 A2 Fr2 g z3 (by omega) (fun e2 => ?_) (fun e2 σ3 w3 q3 v3 E3 F3 W3 V3 A3 Fr3 => ?_)
    · rw [if_pos e2] at kE
      exact (kE e2).mv F02 W02 (by omega)
    rw [if_neg (fun q => q e2)] at kO kE
    have kb3 := F3.2.2.1
    have F03 := F02.trans F3 (Nat.le_refl _)
    have W03 := W02.trans W3
    have ty1 := r1.2.2.2.2.1.1 kn R _ g (show m1.1 kn = (0, (m1.1 kn).2) from Prod.ext z1 rfl) e0
    have ty2 := r2.2.2.2.2.1.1 kn R _ g (show m2.1 kn = (0, (m2.1 kn).2) from Prod.ext z2 rfl) e1
    have ty3 := r3.2.2.2.2.1.1 kn R _ g (show m3.1 kn = (0, (m3.1 kn).2) from Prod.ext z3 rfl) e2
    have V13 := (V1.mv F2).mv F3
    have V23 := V2.mv F3
    refine mo_124 (kv := 1) H E3 A3 (by omega) V13 V23 V3 ty1.1.k4 ty2.1.k4 ty3.1.k4 (by omega) (Nat.le_refl _) (fun e3 => ?_) (fun n1 n2 n3 => ?_)
    · rw [if_pos e3] at kO
      exact (kO rfl).mv F03 W03 (by omega)
    · rw [if_neg (fun r => r.elim n1 (fun r => r.elim n2 n3))] at kO kE
      exact mo_substr (kv := 1) H E3 A3 Fr3 (by omega) V13 V23 V3 ty1.1 ((ty_ft ty1 f1 (by decide) (by decide)).resolve_left n1) ((ty_ft ty2 f2 (by decide) (by decide)).resolve_left n2) ((ty_ft ty3 f3 (by decide) (by decide)).resolve_left n3) ty2.2.1 ty3.2.1 (by omega) (Nat.le_refl _) (fun e => (kO e).mv F03 W03 (by omega)) (fun e => (kE e).mv F03 W03 (by omega))
  · rw [e] at c9
    exact absurd c9 (bad_ck h9 kn)
end MFun2
