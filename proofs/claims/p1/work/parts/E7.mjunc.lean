/-! ===== nodes of IS NULL, AND, OR. Printed by wip/tools/genE7.py ===== -/
def IsnR (am : Nat → Nat) (lo : Nat) (kd : Int32) (mk : Ex → Ex) : Prop := ∀ (σ : Hp) (m1 : Ex) (n x nlo nhi a c h k1 : Nat), ND σ n (n + 1) 8 kd [x] 2 → lo ≤ nlo → nlo ≤ n → n + 2 ≤ nhi → nlo ≤ a → c ≤ nhi → RepN m1 lo a c σ am x h k1 → RepN (mk m1) lo nlo nhi σ am n (h + 1) (k1 + 1)
theorem kc_17 (k : Int32) : sp_kc 17 [k] = (0, 2) := by
  have e : sp_kl 17 1 [k] 0 3 0 = (0, 3) := by
    rw [sp_kl, if_neg (by decide), if_pos (Or.inr (Or.inr (Or.inr (by decide))))]
    rfl
  rw [show sp_kc 17 [k] = _ from if_pos (show sp_takes 17 1 = true by decide)]
  show ((sp_kl 17 1 [k] 0 3 0).1, _) = _
  rw [e]
  rfl
theorem ck_17 (m : Ex) (kn : Nat → Int32) : ck1 17 m kn = if ¬ (m.1 kn).1 = 0 then m.1 kn else (0, 2) := by
  unfold ck1
  rw [kc_17]
theorem v_nul {x : Va} (ox : v_ok x) (x3 : x.1 = 3) : x = v_null := by
  rcases ox with o | o | o | o
  · exact absurd (o.1.symm.trans x3) (by decide)
  · exact absurd (o.1.symm.trans x3) (by decide)
  · exact absurd (o.1.symm.trans x3) (by decide)
  · exact o
theorem v_bo {x : Va} (ox : v_ok x) (x2 : x.1 = 2) : x = (2, 0, []) ∨ x = (2, 1, []) := by
  rcases ox with o | o | o | o
  · exact absurd (o.1.symm.trans x2) (by decide)
  · exact absurd (o.1.symm.trans x2) (by decide)
  · obtain ⟨a, b, c⟩ := x
    obtain ⟨o1, o2, o3⟩ := o
    have o1' : a = 2 := o1
    have o3' : c = [] := o3
    subst o1' o3'
    rcases o2 with e | e
    · left; have e' : b = 0 := e; rw [e']
    · right; have e' : b = 1 := e; rw [e']
  · rw [o] at x2
    exact absurd (show (3 : Int32) = 2 from x2) (by decide)
section MIsn
variable {lo : Nat} {am : Nat → Nat}
theorem rn_isn0 : IsnR am lo 0 (ex_isnull) := by
  intro σ0 m1 n x nlo nhi a c h k1 N h1 h2 h3 h4 h5 r
  have hn := one_rg (nhi := nhi) h2 (show n < nhi by omega)
  have hb := one_rg (nlo := nlo) (nhi := nhi) (n := n + 1) (by omega) (by omega)
  have hs : Sb nlo nhi 0 0 a c 0 0 := one_sb h4 h5
  have hm : ∀ kn, ((ex_isnull) m1).1 kn = if ¬ (m1.1 kn).1 = 0 then m1.1 kn else (0, 2) := fun kn => ck_17 m1 kn
  have hes : EX_S ((ex_isnull) m1) ∧ EX_K ((ex_isnull) m1) := ⟨es_isnull, ek_1 r.2.2.2.2.1.2 (by decide)⟩
  have hev : ∀ R, ((ex_isnull) m1).2.1 R = if ¬ (m1.2.1 R).1 = 0 then m1.2.1 R else (0, v_bool (decide ((m1.2.1 R).2.1 = 3))) := fun R => rfl
  refine ⟨h1, hn.1, hn.2.1, N.1, hes, ?_, ?_, hn.2.2⟩
  · refine rnk_node (rs := [(m1, x)]) (F := fun _ _ => (0, 2)) N hn hb (show 1 ≤ 100 ∧ 2 ≤ 1000 by decide) rfl ⟨a, c, 0, 0, h4, ⟨r.2.1, r.2.2.1, r.2.2.2.2.2.2.2⟩, hs, r.2.2.2.1, r.2.2.2.2.2.1, trivial⟩ (fun kn _ => ?_) (fun z l d σ w kn Q ks Km hz A N e k0 k1 => ?_)
    · show (¬ (ckl [m1] kn).1 = 0 → _) ∧ ((ckl [m1] kn).1 = 0 → _)
      rw [hm kn]
      by_cases q : (m1.1 kn).1 = 0
      · have e : ckl [m1] kn = (0, [(m1.1 kn).2]) := by
          rw [ckl, if_neg (fun r => r q)]
          rfl
        rw [e, if_neg (fun r => r q)]
        exact ⟨fun r => absurd rfl r, fun _ => ⟨rfl, fun _ => rfl⟩⟩
      · have e : ckl [m1] kn = ((m1.1 kn).1, []) := by rw [ckl, if_pos q]
        rw [e, if_pos q]
        exact ⟨fun _ => (show (m1.1 kn).1 = (ckl [m1] kn).1 by rw [e]), fun r => absurd r q⟩
    · obtain ⟨v0, hv⟩ := Km.2.2.2.1
      exact ty_isnull Km.1 Km.2.1 hv N (k0 rfl (show k4 2 by decide))
  intro z l d σ w kn R q Q E A F g c9 b9 kO kE
  have z1 : (m1.1 kn).1 = 0 := by
    rw [hm kn] at c9
    by_cases q9 : (m1.1 kn).1 = 0
    · exact q9
    · rw [if_pos q9] at c9
      exact c9
  rw [hev R] at kO kE
  have N' := N.mvx (A n (Or.inl hn)) (A (n + 1) (Or.inl hb))
  refine go_eq (show d + 2 * h + 13 + 9 = d + 2 * (h + 1) + 20 by omega) (ev_8 (d := d + 2 * h + 13) E.1 E.2.1 N' (show 1 ≤ 1 by decide) (show 1 ≤ 100 ∧ 2 ≤ 1000 by decide) (go_eq (show d + 1 + 2 * h + 20 = d + 2 * h + 13 + 8 by omega) (ev_one (d := d + 1) hs r E A F g z1 (by omega) (fun e0 => ?_) (fun e0 σ1 w1 q1 v1 E1 F1 W1 V1 A1 Fr1 => ?_))))
  · rw [if_pos e0] at kE
    exact fun σ' w' q' E' F' W' _ => gj_nextT (go_out (fun _ h => nomatch h) (kE e0 σ' w' q' E' (F'.mono (by omega)) W'))
  · rw [if_neg (fun q => q e0)] at kO
    have ty1 := r.2.2.2.2.1.1 kn R _ g (show m1.1 kn = (0, (m1.1 kn).2) from Prod.ext z1 rfl) e0
    have ta : σ1.I 70 v1 = 0 ↔ (m1.2.1 R).2.1 = 3 := by rw [V1.1.2.1]; exact mty_0 ty1.1.k4
    have N1 := N.mvx (A1 n (Or.inl hn)) (A1 (n + 1) (Or.inl hb))
    have kd1 : ¬ σ1.I 64 n = 1 := by rw [N1.2.2.1]; decide
    have go : ∀ (p : Bool) (b : Int32), b = b2i p → (decide ((m1.2.1 R).2.1 = 3)) = p → Go z l mt_M_truth (d + 2 * h + 13 + 8) 0 [.ref (am 0), .int b] [] (ov σ1 am 7 w1) (fun o σ2 => hp_Le (ov σ1 am 7 w1) σ2 → gj_next z l mt_M_eval (d + 2 * h + 13 + 9) 233 [.ref (am 0), .ref n, .retAddr 0, .retAddr 0, .retAddr 0, .retAddr 0, .retAddr 0] [] Q o σ2) := fun p b hb9 hp => by
      rw [hp] at kO
      exact go_eq (show d + 2 * h + 11 + 10 = d + 2 * h + 13 + 8 by omega) (mo_truth (d := d + 2 * h + 11) (kv := 1) E1 (by have := F1.2.2.1; omega) hb9 (Nat.le_refl _) (fun σ' w' q' v' E' F' W' V' _ => gj_nextI (cm_M_eval_236 (d := d + 2 * h + 13) E'.1 (kO rfl σ' w' q' v' E' (F1.trans F' (Nat.le_refl _)) (W1.trans W') V'))))
    exact fun _ => gj_nextI (cm_M_eval_201 (d := d + 2 * h + 13) E1.1 V1.1.1 N1.1 (fun e1 _ => go false 0 rfl (decide_eq_false (fun e => e1 (ta.mpr e)))) (fun _ e => absurd e kd1) (fun e1 _ => go true 1 rfl (decide_eq_true (ta.mp e1))) (fun _ e => absurd e kd1))
theorem rn_isn1 : IsnR am lo 1 (fun m => ex_1 16 (ex_isnull m)) := by
  intro σ0 m1 n x nlo nhi a c h k1 N h1 h2 h3 h4 h5 r
  have hn := one_rg (nhi := nhi) h2 (show n < nhi by omega)
  have hb := one_rg (nlo := nlo) (nhi := nhi) (n := n + 1) (by omega) (by omega)
  have hs : Sb nlo nhi 0 0 a c 0 0 := one_sb h4 h5
  have hm : ∀ kn, ((fun m => ex_1 16 (ex_isnull m)) m1).1 kn = if ¬ (m1.1 kn).1 = 0 then m1.1 kn else (0, 2) := fun kn => by
    show ck1 16 (ex_isnull m1) kn = _
    unfold ck1
    have e : (ex_isnull m1).1 kn = if ¬ (m1.1 kn).1 = 0 then m1.1 kn else (0, 2) := ck_17 m1 kn
    rw [e]
    by_cases q : ¬ (m1.1 kn).1 = 0
    · rw [if_pos q, if_pos q]
    · rw [if_neg q, if_neg (fun q9 => q9 rfl)]
      rfl
  have hes : EX_S ((fun m => ex_1 16 (ex_isnull m)) m1) ∧ EX_K ((fun m => ex_1 16 (ex_isnull m)) m1) := ⟨es_1 es_isnull (Or.inl (Or.inl rfl)), ek_1 (ek_1 r.2.2.2.2.1.2 (by decide)) (by decide)⟩
  have hev : ∀ R, ((fun m => ex_1 16 (ex_isnull m)) m1).2.1 R = if ¬ (m1.2.1 R).1 = 0 then m1.2.1 R else (0, v_bool (!decide ((m1.2.1 R).2.1 = 3))) := fun R => by
    show ev1 16 (ex_isnull m1) R = _
    unfold ev1
    have e : (ex_isnull m1).2.1 R = if ¬ (m1.2.1 R).1 = 0 then m1.2.1 R else (0, v_bool (decide ((m1.2.1 R).2.1 = 3))) := rfl
    rw [e]
    by_cases q : ¬ (m1.2.1 R).1 = 0
    · rw [if_pos q, if_pos q, if_pos q]
    · rw [if_neg q, if_neg (fun q9 => q9 rfl), if_neg q]
      show (if (2 : Int32) = 3 then (0, v_null) else sp_st 16 (v_bool (decide ((m1.2.1 R).2.1 = 3))) v_null v_null) = _
      rw [if_neg (by decide)]
      by_cases q3 : (m1.2.1 R).2.1 = 3
      · rw [decide_eq_true q3]; rfl
      · rw [decide_eq_false q3]; rfl
  refine ⟨h1, hn.1, hn.2.1, N.1, hes, ?_, ?_, hn.2.2⟩
  · refine rnk_node (rs := [(m1, x)]) (F := fun _ _ => (0, 2)) N hn hb (show 1 ≤ 100 ∧ 2 ≤ 1000 by decide) rfl ⟨a, c, 0, 0, h4, ⟨r.2.1, r.2.2.1, r.2.2.2.2.2.2.2⟩, hs, r.2.2.2.1, r.2.2.2.2.2.1, trivial⟩ (fun kn _ => ?_) (fun z l d σ w kn Q ks Km hz A N e k0 k1 => ?_)
    · show (¬ (ckl [m1] kn).1 = 0 → _) ∧ ((ckl [m1] kn).1 = 0 → _)
      rw [hm kn]
      by_cases q : (m1.1 kn).1 = 0
      · have e : ckl [m1] kn = (0, [(m1.1 kn).2]) := by
          rw [ckl, if_neg (fun r => r q)]
          rfl
        rw [e, if_neg (fun r => r q)]
        exact ⟨fun r => absurd rfl r, fun _ => ⟨rfl, fun _ => rfl⟩⟩
      · have e : ckl [m1] kn = ((m1.1 kn).1, []) := by rw [ckl, if_pos q]
        rw [e, if_pos q]
        exact ⟨fun _ => (show (m1.1 kn).1 = (ckl [m1] kn).1 by rw [e]), fun r => absurd r q⟩
    · obtain ⟨v0, hv⟩ := Km.2.2.2.1
      exact ty_isnull Km.1 Km.2.1 hv N (k0 rfl (show k4 2 by decide))
  intro z l d σ w kn R q Q E A F g c9 b9 kO kE
  have z1 : (m1.1 kn).1 = 0 := by
    rw [hm kn] at c9
    by_cases q9 : (m1.1 kn).1 = 0
    · exact q9
    · rw [if_pos q9] at c9
      exact c9
  rw [hev R] at kO kE
  have N' := N.mvx (A n (Or.inl hn)) (A (n + 1) (Or.inl hb))
  refine go_eq (show d + 2 * h + 13 + 9 = d + 2 * (h + 1) + 20 by omega) (ev_8 (d := d + 2 * h + 13) E.1 E.2.1 N' (show 1 ≤ 1 by decide) (show 1 ≤ 100 ∧ 2 ≤ 1000 by decide) (go_eq (show d + 1 + 2 * h + 20 = d + 2 * h + 13 + 8 by omega) (ev_one (d := d + 1) hs r E A F g z1 (by omega) (fun e0 => ?_) (fun e0 σ1 w1 q1 v1 E1 F1 W1 V1 A1 Fr1 => ?_))))
  · rw [if_pos e0] at kE
    exact fun σ' w' q' E' F' W' _ => gj_nextT (go_out (fun _ h => nomatch h) (kE e0 σ' w' q' E' (F'.mono (by omega)) W'))
  · rw [if_neg (fun q => q e0)] at kO
    have ty1 := r.2.2.2.2.1.1 kn R _ g (show m1.1 kn = (0, (m1.1 kn).2) from Prod.ext z1 rfl) e0
    have ta : σ1.I 70 v1 = 0 ↔ (m1.2.1 R).2.1 = 3 := by rw [V1.1.2.1]; exact mty_0 ty1.1.k4
    have N1 := N.mvx (A1 n (Or.inl hn)) (A1 (n + 1) (Or.inl hb))
    have kd1 : σ1.I 64 n = 1 := N1.2.2.1
    have go : ∀ (p : Bool) (b : Int32), b = b2i p → (!decide ((m1.2.1 R).2.1 = 3)) = p → Go z l mt_M_truth (d + 2 * h + 13 + 8) 0 [.ref (am 0), .int b] [] (ov σ1 am 7 w1) (fun o σ2 => hp_Le (ov σ1 am 7 w1) σ2 → gj_next z l mt_M_eval (d + 2 * h + 13 + 9) 233 [.ref (am 0), .ref n, .retAddr 0, .retAddr 0, .retAddr 0, .retAddr 0, .retAddr 0] [] Q o σ2) := fun p b hb9 hp => by
      rw [hp] at kO
      exact go_eq (show d + 2 * h + 11 + 10 = d + 2 * h + 13 + 8 by omega) (mo_truth (d := d + 2 * h + 11) (kv := 1) E1 (by have := F1.2.2.1; omega) hb9 (Nat.le_refl _) (fun σ' w' q' v' E' F' W' V' _ => gj_nextI (cm_M_eval_236 (d := d + 2 * h + 13) E'.1 (kO rfl σ' w' q' v' E' (F1.trans F' (Nat.le_refl _)) (W1.trans W') V'))))
    exact fun _ => gj_nextI (cm_M_eval_201 (d := d + 2 * h + 13) E1.1 V1.1.1 N1.1 (fun _ e => absurd kd1 e) (fun e1 _ => go true 1 rfl (by rw [decide_eq_false (fun e => e1 (ta.mpr e))]; rfl)) (fun _ e => absurd kd1 e) (fun e1 _ => go false 0 rfl (by rw [decide_eq_true (ta.mp e1)]; rfl)))
/-- AND -/
theorem rn_and : PairR am lo 10 (fun _ => 0) (fun _ => ex_and) (fun o => ∃ g, g < 35 ∧ og_and g = o ∧ ¬ o = 0) := by
  intro o9 σ0 m1 m2 n x y a c1 c2 e2 e h k1 k2 hl hh v9 N h1 h2 h3 hho r1 r2
  obtain ⟨K, hn, hb⟩ := pair_K h1 h2 h3 hho r1 r2
  refine ⟨r1.1, hn.1, hn.2.1, N.1, ⟨es_and r1.2.2.2.2.1.1, ek_2 r1.2.2.2.2.1.2 r2.2.2.2.2.1.2 (by decide)⟩, rnk_2 (o := 15) rfl N hn hb K (fun z l d σ w Q ks v0 hc hl hv NT9 _ => ty_and hc hl hv NT9), ?_, hn.2.2⟩
  intro z l d σ w kn R q Q E A F g c b9 kO kE
  obtain ⟨z1, z2, z3⟩ := ck2_0 (o := 15) c
  obtain ⟨f1, f2⟩ := kc_due2 (o := 15) (kw := 2) (by decide) (by decide) rfl rfl (by decide) z3
  have N' := N.mvx (A n (Or.inl hn)) (A (n + 1) (Or.inl hb))
  have ev : (ex_and m1 m2).2.1 R = if ¬ (m1.2.1 R).1 = 0 then m1.2.1 R else if v_tr 0 (m1.2.1 R).2 then m1.2.1 R else if ¬ (m2.2.1 R).1 = 0 then m2.2.1 R else (0, v_dec 0 (m1.2.1 R).2 (m2.2.1 R).2) := rfl
  rw [ev] at kO kE
  have no10 : σ.I 63 n = 10 := N'.2.1
  have i0 : vp_in (0 : Int32) (σ.len (n + 1)) := by rw [N'.2.2.2.2.2.1]; exact vp_in_nI (n := 0) (by decide) (by decide)
  refine go_eq (show d + 2 * h + 13 + 9 = d + 2 * (h + 1) + 20 by omega) (ev_10 (d := d + 2 * h + 13) E.1 E.2.1 N' (cm_M_joined (d := d + 2 * h + 12) (b2 := n + 1) (b6 := x) (b8 := n + 1) (b12 := x) E.1 N'.1 N'.2.2.2.2.1 N'.2.2.2.2.1 (fun q9 => absurd no10 q9) (fun q9 => absurd no10 q9) (fun q9 => absurd no10 q9) (fun q9 => absurd no10 q9) (fun _ => N'.2.2.2.1) (fun _ => i0) (fun _ => N'.2.2.2.2.2.2.2.2 0 (show 0 < 2 by decide)) (fun _ => (go_eq (show d + 2 * h + 20 = d + 2 * h + 12 + 8 by omega) (ev_two (d := d) K E A F g z1 z2 (by omega) (fun e0 => ?_) (fun e0 σ1 w1 q1 v1 E1 F1 W1 V1 A1 Fr1 b1 => ?_))))))
  · rw [if_pos e0] at kE
    exact fun σ' w' q' E' F' W' _ => gj_nextT (go_out (fun _ h => nomatch h) (fun _ => gj_nextT (go_out (fun _ h => nomatch h) (kE e0 σ' w' q' E' (F'.mono (by omega)) W'))))
  · rw [if_neg (fun q => q e0)] at kO kE
    have ty1 := r1.2.2.2.2.1.1 kn R _ g (show m1.1 kn = (0, (m1.1 kn).2) from Prod.ext z1 rfl) e0
    have g1 := ty_ft ty1 f1 (by decide) (by decide)
    have N1 := N.mvx (A1 n (Or.inl hn)) (A1 (n + 1) (Or.inl hb))
    have i1 : vp_in (1 : Int32) (σ1.len (n + 1)) := by rw [N1.2.2.2.2.2.1]; exact vp_in_nI (n := 1) (by decide) (by decide)
    have t16 : σ1.I 70 v1 = 16 ↔ (m1.2.1 R).2.1 = 2 := by rw [V1.1.2.1]; exact mty_inj (b := 2) ty1.1.k4 (by decide)
    have tr : σ1.I 70 v1 = 16 → (lg_cmp (σ1.J 71 v1) 0 = 0 ↔ v_tr 0 (m1.2.1 R).2) := fun e9 => by
      rw [V1.1.2.2.1 (Or.inr (t16.mp e9)), lgc_eq0]
      exact ⟨fun r => ⟨t16.mp e9, r⟩, fun r => r.2⟩
    have ret : v_tr 0 (m1.2.1 R).2 → Q (.returned (some (.ref v1))) (ov σ1 am 7 w1) := fun e9 => by
      rw [if_pos e9] at kO
      exact kO e0 σ1 w1 q1 v1 E1 (F1.mono (by omega)) W1 V1
    have snd : ¬ v_tr 0 (m1.2.1 R).2 → Go z l mt_M_eval (d + 2 * h + 12 + 8) 0 [.ref (am 0), .ref y, .retAddr 0, .retAddr 0, .retAddr 0, .retAddr 0, .retAddr 0] [] (ov σ1 am 7 w1) (fun o σ2 => hp_Le (ov σ1 am 7 w1) σ2 → gj_next z l mt_M_joined (d + 2 * h + 12 + 9) 56 [.ref (am 0), .ref n, .int 1, .ref v1, .retAddr 0] [] (fun o σ1 => hp_Le (ov σ am 7 w) σ1 → gj_next z l mt_M_eval (d + 2 * h + 13 + 9) 272 [.ref (am 0), .ref n, .retAddr 0, .retAddr 0, .retAddr 0, .retAddr 0, .retAddr 0] [] Q o σ1) o σ2) := fun nt => by
      rw [if_neg nt] at kO kE
      refine go_eq (show d + 2 * h + 20 = d + 2 * h + 12 + 8 by omega) (ev_snd (d := d) K E1 A1 Fr1 g z2 b1 (fun e1 => ?_) (fun e1 σ2 w2 q2 v2 E2 F2 W2 V2 A2 Fr2 => ?_))
      · rw [if_pos e1] at kE
        exact fun σ' w' q' E' F' W' _ => gj_nextT (go_out (fun _ h => nomatch h) (fun _ => gj_nextT (go_out (fun _ h => nomatch h) (kE e1 σ' w' q' E' (F1.trans F' (by omega)) (W1.trans W')))))
      · rw [if_neg (fun q => q e1)] at kO
        have ty2 := r2.2.2.2.2.1.1 kn R _ g (show m2.1 kn = (0, (m2.1 kn).2) from Prod.ext z2 rfl) e1
        have g2 := ty_ft ty2 f2 (by decide) (by decide)
        have V1' := V1.mv F2
        have F12 := (F1.trans F2 (Nat.le_refl _)).mono (show k1 + k2 ≤ k1 + k2 + 1 by omega)
        have s16 : σ2.I 70 v2 = 16 ↔ (m2.2.1 R).2.1 = 2 := by rw [V2.1.2.1]; exact mty_inj (b := 2) ty2.1.k4 (by decide)
        have s0 : σ2.I 70 v1 = 0 ↔ (m1.2.1 R).2.1 = 3 := by rw [V1'.1.2.1]; exact mty_0 ty1.1.k4
        have tr2 : σ2.I 70 v2 = 16 → (lg_cmp (σ2.J 71 v2) 0 = 0 ↔ v_tr 0 (m2.2.1 R).2) := fun e9 => by
          rw [V2.1.2.2.1 (Or.inr (s16.mp e9)), lgc_eq0]
          exact ⟨fun r => ⟨s16.mp e9, r⟩, fun r => r.2⟩
        have retb : v_dec 0 (m1.2.1 R).2 (m2.2.1 R).2 = (m2.2.1 R).2 → (hp_Le (ov σ am 7 w) (ov σ2 am 7 w2) → gj_next z l mt_M_eval (d + 2 * h + 13 + 9) 272 [.ref (am 0), .ref n, .retAddr 0, .retAddr 0, .retAddr 0, .retAddr 0, .retAddr 0] [] Q (.returned (some (.ref v2))) (ov σ2 am 7 w2)) := fun ed _ => by
          rw [ed] at kO
          exact gj_nextI (cm_M_eval_275 (d := d + 2 * h + 13) E2.1 (kO rfl σ2 w2 q2 v2 E2 F12 (W1.trans W2) V2))
        have reta : v_dec 0 (m1.2.1 R).2 (m2.2.1 R).2 = (m1.2.1 R).2 → (hp_Le (ov σ am 7 w) (ov σ2 am 7 w2) → gj_next z l mt_M_eval (d + 2 * h + 13 + 9) 272 [.ref (am 0), .ref n, .retAddr 0, .retAddr 0, .retAddr 0, .retAddr 0, .retAddr 0] [] Q (.returned (some (.ref v1))) (ov σ2 am 7 w2)) := fun ed _ => by
          rw [ed] at kO
          exact gj_nextI (cm_M_eval_275 (d := d + 2 * h + 13) E2.1 (kO rfl σ2 w2 q2 v1 E2 F12 (W1.trans W2) V1'))
        -- what the truths are
        have bt : v_tr 0 (m2.2.1 R).2 → v_dec 0 (m1.2.1 R).2 (m2.2.1 R).2 = (m2.2.1 R).2 := fun e9 => by
          have eb : (m2.2.1 R).2 = (2, 0, []) := by
            rcases v_bo ty2.1 e9.1 with r | r
            · exact r
            · exact absurd ((congrArg (fun (v : Va) => v.2.1) r).symm.trans e9.2) (by decide)
          unfold v_dec
          rw [if_pos (show v_tr ((0 : Int32).toInt64) _ ∨ v_tr ((0 : Int32).toInt64) _ from Or.inr e9), eb]
          rfl
        have bf : ¬ v_tr 0 (m2.2.1 R).2 → ¬ (m1.2.1 R).2.1 = 3 → v_dec 0 (m1.2.1 R).2 (m2.2.1 R).2 = (m2.2.1 R).2 := fun e9 e8 => by
          unfold v_dec
          rw [if_neg (show ¬ (v_tr ((0 : Int32).toInt64) _ ∨ v_tr ((0 : Int32).toInt64) _) from fun r => r.elim nt e9)]
          rcases g2 with y3 | y2
          · rw [if_pos (Or.inr y3), v_nul ty2.1 y3]
            rfl
          · rw [if_neg (fun r => r.elim e8 (fun r => absurd (r.symm.trans y2) (by decide)))]
            rcases v_bo ty2.1 y2 with r | r
            · exact absurd ⟨y2, congrArg (fun (v : Va) => v.2.1) r⟩ e9
            · rw [r]; rfl
        have an : ¬ v_tr 0 (m2.2.1 R).2 → (m1.2.1 R).2.1 = 3 → v_dec 0 (m1.2.1 R).2 (m2.2.1 R).2 = (m1.2.1 R).2 := fun e9 e8 => by
          unfold v_dec
          rw [if_neg (show ¬ (v_tr ((0 : Int32).toInt64) _ ∨ v_tr ((0 : Int32).toInt64) _) from fun r => r.elim nt e9), if_pos (Or.inl e8), v_nul ty1.1 e8]
          rfl
        have n16 : ¬ σ2.I 70 v2 = 16 → ¬ v_tr 0 (m2.2.1 R).2 := fun e9 r => e9 (s16.mpr r.1)
        have ntr : σ2.I 70 v2 = 16 → ¬ lg_cmp (σ2.J 71 v2) 0 = 0 → ¬ v_tr 0 (m2.2.1 R).2 := fun e8 e9 r => e9 ((tr2 e8).mpr r)
        exact fun _ => gj_nextI (cm_M_joined_59 (d := d + 2 * h + 12) E2.1 V2.1.1 V1'.1.1 (fun q9 => absurd (show (1 : Int32) = 0 from q9) (by decide)) (fun q9 => absurd (show (1 : Int32) = 0 from q9) (by decide)) (fun q9 => absurd (show (1 : Int32) = 0 from q9) (by decide)) (fun q9 => absurd (show (1 : Int32) = 0 from q9) (by decide)) (fun q9 => absurd (show (1 : Int32) = 0 from q9) (by decide)) (fun _ e8 e9 => retb (bf (n16 e8) (fun r => e9 (s0.mpr r)))) (fun _ e8 e9 => reta (an (n16 e8) (s0.mp e9))) (fun _ e7 e8 e9 => retb (bf (ntr e7 e8) (fun r => e9 (s0.mpr r)))) (fun _ e7 e8 e9 => reta (an (ntr e7 e8) (s0.mp e9))) (fun _ e8 e9 => retb (bt ((tr2 e8).mp e9))))
    exact fun _ => gj_nextI (cm_M_joined_25 (d := d + 2 * h + 12) (b3 := n + 1) (b7 := y) (b9 := n + 1) (b13 := y) (b15 := n + 1) (b19 := y) (b21 := n + 1) (b25 := y) E1.1 V1.1.1 N1.1 N1.2.2.2.2.1 N1.2.2.2.2.1 N1.2.2.2.2.1 N1.2.2.2.2.1 (fun q9 => absurd (show (1 : Int32) = 0 from q9) (by decide)) (fun q9 => absurd (show (1 : Int32) = 0 from q9) (by decide)) (fun q9 => absurd (show (1 : Int32) = 0 from q9) (by decide)) (fun q9 => absurd (show (1 : Int32) = 0 from q9) (by decide)) (fun q9 => absurd (show (1 : Int32) = 0 from q9) (by decide)) (fun q9 => absurd (show (1 : Int32) = 0 from q9) (by decide)) (fun q9 => absurd (show (1 : Int32) = 0 from q9) (by decide)) (fun q9 => absurd (show (1 : Int32) = 0 from q9) (by decide)) (fun q9 => absurd (show (1 : Int32) = 0 from q9) (by decide)) (fun _ _ => N1.2.2.2.1) (fun _ _ => i1) (fun _ _ => N1.2.2.2.2.2.2.2.2 1 (show 1 < 2 by decide)) (fun _ e9 => snd (fun r => e9 (t16.mpr r.1))) (fun _ _ _ => N1.2.2.2.1) (fun _ _ _ => i1) (fun _ _ _ => N1.2.2.2.2.2.2.2.2 1 (show 1 < 2 by decide)) (fun _ e8 e9 => snd (fun r => e9 ((tr e8).mpr r))) (fun _ e8 e9 => fun _ => gj_nextI (cm_M_eval_275 (d := d + 2 * h + 13) E1.1 (ret ((tr e8).mp e9)))))
/-- OR -/
theorem rn_or : PairR am lo 11 (fun _ => 0) (fun _ => ex_or) (fun o => ∃ g, g < 35 ∧ og_or g = o ∧ ¬ o = 0) := by
  intro o9 σ0 m1 m2 n x y a c1 c2 e2 e h k1 k2 hl hh v9 N h1 h2 h3 hho r1 r2
  obtain ⟨K, hn, hb⟩ := pair_K h1 h2 h3 hho r1 r2
  refine ⟨r1.1, hn.1, hn.2.1, N.1, ⟨es_or r1.2.2.2.2.1.1, ek_2 r1.2.2.2.2.1.2 r2.2.2.2.2.1.2 (by decide)⟩, rnk_2 (o := 14) rfl N hn hb K (fun z l d σ w Q ks v0 hc hl hv NT9 _ => ty_or hc hl hv NT9), ?_, hn.2.2⟩
  intro z l d σ w kn R q Q E A F g c b9 kO kE
  obtain ⟨z1, z2, z3⟩ := ck2_0 (o := 14) c
  obtain ⟨f1, f2⟩ := kc_due2 (o := 14) (kw := 2) (by decide) (by decide) rfl rfl (by decide) z3
  have N' := N.mvx (A n (Or.inl hn)) (A (n + 1) (Or.inl hb))
  have ev : (ex_or m1 m2).2.1 R = if ¬ (m1.2.1 R).1 = 0 then m1.2.1 R else if v_tr 1 (m1.2.1 R).2 then m1.2.1 R else if ¬ (m2.2.1 R).1 = 0 then m2.2.1 R else (0, v_dec 1 (m1.2.1 R).2 (m2.2.1 R).2) := rfl
  rw [ev] at kO kE
  have no10 : ¬ σ.I 63 n = 10 := by rw [N'.2.1]; decide
  have i0 : vp_in (0 : Int32) (σ.len (n + 1)) := by rw [N'.2.2.2.2.2.1]; exact vp_in_nI (n := 0) (by decide) (by decide)
  refine go_eq (show d + 2 * h + 13 + 9 = d + 2 * (h + 1) + 20 by omega) (ev_11 (d := d + 2 * h + 13) E.1 E.2.1 N' (cm_M_joined (d := d + 2 * h + 12) (b2 := n + 1) (b6 := x) (b8 := n + 1) (b12 := x) E.1 N'.1 N'.2.2.2.2.1 N'.2.2.2.2.1 (fun _ => N'.2.2.2.1) (fun _ => i0) (fun _ => N'.2.2.2.2.2.2.2.2 0 (show 0 < 2 by decide)) (fun _ => (go_eq (show d + 2 * h + 20 = d + 2 * h + 12 + 8 by omega) (ev_two (d := d) K E A F g z1 z2 (by omega) (fun e0 => ?_) (fun e0 σ1 w1 q1 v1 E1 F1 W1 V1 A1 Fr1 b1 => ?_)))) (fun q9 => absurd q9 no10) (fun q9 => absurd q9 no10) (fun q9 => absurd q9 no10) (fun q9 => absurd q9 no10)))
  · rw [if_pos e0] at kE
    exact fun σ' w' q' E' F' W' _ => gj_nextT (go_out (fun _ h => nomatch h) (fun _ => gj_nextT (go_out (fun _ h => nomatch h) (kE e0 σ' w' q' E' (F'.mono (by omega)) W'))))
  · rw [if_neg (fun q => q e0)] at kO kE
    have ty1 := r1.2.2.2.2.1.1 kn R _ g (show m1.1 kn = (0, (m1.1 kn).2) from Prod.ext z1 rfl) e0
    have g1 := ty_ft ty1 f1 (by decide) (by decide)
    have N1 := N.mvx (A1 n (Or.inl hn)) (A1 (n + 1) (Or.inl hb))
    have i1 : vp_in (1 : Int32) (σ1.len (n + 1)) := by rw [N1.2.2.2.2.2.1]; exact vp_in_nI (n := 1) (by decide) (by decide)
    have t16 : σ1.I 70 v1 = 16 ↔ (m1.2.1 R).2.1 = 2 := by rw [V1.1.2.1]; exact mty_inj (b := 2) ty1.1.k4 (by decide)
    have tr : σ1.I 70 v1 = 16 → (lg_cmp (σ1.J 71 v1) 1 = 0 ↔ v_tr 1 (m1.2.1 R).2) := fun e9 => by
      rw [V1.1.2.2.1 (Or.inr (t16.mp e9)), lgc_eq0]
      exact ⟨fun r => ⟨t16.mp e9, r⟩, fun r => r.2⟩
    have ret : v_tr 1 (m1.2.1 R).2 → Q (.returned (some (.ref v1))) (ov σ1 am 7 w1) := fun e9 => by
      rw [if_pos e9] at kO
      exact kO e0 σ1 w1 q1 v1 E1 (F1.mono (by omega)) W1 V1
    have snd : ¬ v_tr 1 (m1.2.1 R).2 → Go z l mt_M_eval (d + 2 * h + 12 + 8) 0 [.ref (am 0), .ref y, .retAddr 0, .retAddr 0, .retAddr 0, .retAddr 0, .retAddr 0] [] (ov σ1 am 7 w1) (fun o σ2 => hp_Le (ov σ1 am 7 w1) σ2 → gj_next z l mt_M_joined (d + 2 * h + 12 + 9) 56 [.ref (am 0), .ref n, .int 0, .ref v1, .retAddr 0] [] (fun o σ1 => hp_Le (ov σ am 7 w) σ1 → gj_next z l mt_M_eval (d + 2 * h + 13 + 9) 272 [.ref (am 0), .ref n, .retAddr 0, .retAddr 0, .retAddr 0, .retAddr 0, .retAddr 0] [] Q o σ1) o σ2) := fun nt => by
      rw [if_neg nt] at kO kE
      refine go_eq (show d + 2 * h + 20 = d + 2 * h + 12 + 8 by omega) (ev_snd (d := d) K E1 A1 Fr1 g z2 b1 (fun e1 => ?_) (fun e1 σ2 w2 q2 v2 E2 F2 W2 V2 A2 Fr2 => ?_))
      · rw [if_pos e1] at kE
        exact fun σ' w' q' E' F' W' _ => gj_nextT (go_out (fun _ h => nomatch h) (fun _ => gj_nextT (go_out (fun _ h => nomatch h) (kE e1 σ' w' q' E' (F1.trans F' (by omega)) (W1.trans W')))))
      · rw [if_neg (fun q => q e1)] at kO
        have ty2 := r2.2.2.2.2.1.1 kn R _ g (show m2.1 kn = (0, (m2.1 kn).2) from Prod.ext z2 rfl) e1
        have g2 := ty_ft ty2 f2 (by decide) (by decide)
        have V1' := V1.mv F2
        have F12 := (F1.trans F2 (Nat.le_refl _)).mono (show k1 + k2 ≤ k1 + k2 + 1 by omega)
        have s16 : σ2.I 70 v2 = 16 ↔ (m2.2.1 R).2.1 = 2 := by rw [V2.1.2.1]; exact mty_inj (b := 2) ty2.1.k4 (by decide)
        have s0 : σ2.I 70 v1 = 0 ↔ (m1.2.1 R).2.1 = 3 := by rw [V1'.1.2.1]; exact mty_0 ty1.1.k4
        have tr2 : σ2.I 70 v2 = 16 → (lg_cmp (σ2.J 71 v2) 1 = 0 ↔ v_tr 1 (m2.2.1 R).2) := fun e9 => by
          rw [V2.1.2.2.1 (Or.inr (s16.mp e9)), lgc_eq0]
          exact ⟨fun r => ⟨s16.mp e9, r⟩, fun r => r.2⟩
        have retb : v_dec 1 (m1.2.1 R).2 (m2.2.1 R).2 = (m2.2.1 R).2 → (hp_Le (ov σ am 7 w) (ov σ2 am 7 w2) → gj_next z l mt_M_eval (d + 2 * h + 13 + 9) 272 [.ref (am 0), .ref n, .retAddr 0, .retAddr 0, .retAddr 0, .retAddr 0, .retAddr 0] [] Q (.returned (some (.ref v2))) (ov σ2 am 7 w2)) := fun ed _ => by
          rw [ed] at kO
          exact gj_nextI (cm_M_eval_275 (d := d + 2 * h + 13) E2.1 (kO rfl σ2 w2 q2 v2 E2 F12 (W1.trans W2) V2))
        have reta : v_dec 1 (m1.2.1 R).2 (m2.2.1 R).2 = (m1.2.1 R).2 → (hp_Le (ov σ am 7 w) (ov σ2 am 7 w2) → gj_next z l mt_M_eval (d + 2 * h + 13 + 9) 272 [.ref (am 0), .ref n, .retAddr 0, .retAddr 0, .retAddr 0, .retAddr 0, .retAddr 0] [] Q (.returned (some (.ref v1))) (ov σ2 am 7 w2)) := fun ed _ => by
          rw [ed] at kO
          exact gj_nextI (cm_M_eval_275 (d := d + 2 * h + 13) E2.1 (kO rfl σ2 w2 q2 v1 E2 F12 (W1.trans W2) V1'))
        -- what the truths are
        have bt : v_tr 1 (m2.2.1 R).2 → v_dec 1 (m1.2.1 R).2 (m2.2.1 R).2 = (m2.2.1 R).2 := fun e9 => by
          have eb : (m2.2.1 R).2 = (2, 1, []) := by
            rcases v_bo ty2.1 e9.1 with r | r
            · exact absurd ((congrArg (fun (v : Va) => v.2.1) r).symm.trans e9.2) (by decide)
            · exact r
          unfold v_dec
          rw [if_pos (show v_tr ((1 : Int32).toInt64) _ ∨ v_tr ((1 : Int32).toInt64) _ from Or.inr e9), eb]
          rfl
        have bf : ¬ v_tr 1 (m2.2.1 R).2 → ¬ (m1.2.1 R).2.1 = 3 → v_dec 1 (m1.2.1 R).2 (m2.2.1 R).2 = (m2.2.1 R).2 := fun e9 e8 => by
          unfold v_dec
          rw [if_neg (show ¬ (v_tr ((1 : Int32).toInt64) _ ∨ v_tr ((1 : Int32).toInt64) _) from fun r => r.elim nt e9)]
          rcases g2 with y3 | y2
          · rw [if_pos (Or.inr y3), v_nul ty2.1 y3]
            rfl
          · rw [if_neg (fun r => r.elim e8 (fun r => absurd (r.symm.trans y2) (by decide)))]
            rcases v_bo ty2.1 y2 with r | r
            · rw [r]; rfl
            · exact absurd ⟨y2, congrArg (fun (v : Va) => v.2.1) r⟩ e9
        have an : ¬ v_tr 1 (m2.2.1 R).2 → (m1.2.1 R).2.1 = 3 → v_dec 1 (m1.2.1 R).2 (m2.2.1 R).2 = (m1.2.1 R).2 := fun e9 e8 => by
          unfold v_dec
          rw [if_neg (show ¬ (v_tr ((1 : Int32).toInt64) _ ∨ v_tr ((1 : Int32).toInt64) _) from fun r => r.elim nt e9), if_pos (Or.inl e8), v_nul ty1.1 e8]
          rfl
        have n16 : ¬ σ2.I 70 v2 = 16 → ¬ v_tr 1 (m2.2.1 R).2 := fun e9 r => e9 (s16.mpr r.1)
        have ntr : σ2.I 70 v2 = 16 → ¬ lg_cmp (σ2.J 71 v2) 1 = 0 → ¬ v_tr 1 (m2.2.1 R).2 := fun e8 e9 r => e9 ((tr2 e8).mpr r)
        exact fun _ => gj_nextI (cm_M_joined_59 (d := d + 2 * h + 12) E2.1 V2.1.1 V1'.1.1 (fun _ e8 e9 => retb (bf (n16 e8) (fun r => e9 (s0.mpr r)))) (fun _ e8 e9 => reta (an (n16 e8) (s0.mp e9))) (fun _ e7 e8 e9 => retb (bf (ntr e7 e8) (fun r => e9 (s0.mpr r)))) (fun _ e7 e8 e9 => reta (an (ntr e7 e8) (s0.mp e9))) (fun _ e8 e9 => retb (bt ((tr2 e8).mp e9))) (fun q9 => absurd rfl q9) (fun q9 => absurd rfl q9) (fun q9 => absurd rfl q9) (fun q9 => absurd rfl q9) (fun q9 => absurd rfl q9))
    exact fun _ => gj_nextI (cm_M_joined_25 (d := d + 2 * h + 12) (b3 := n + 1) (b7 := y) (b9 := n + 1) (b13 := y) (b15 := n + 1) (b19 := y) (b21 := n + 1) (b25 := y) E1.1 V1.1.1 N1.1 N1.2.2.2.2.1 N1.2.2.2.2.1 N1.2.2.2.2.1 N1.2.2.2.2.1 (fun _ _ => N1.2.2.2.1) (fun _ _ => i1) (fun _ _ => N1.2.2.2.2.2.2.2.2 1 (show 1 < 2 by decide)) (fun _ e9 => snd (fun r => e9 (t16.mpr r.1))) (fun _ _ _ => N1.2.2.2.1) (fun _ _ _ => i1) (fun _ _ _ => N1.2.2.2.2.2.2.2.2 1 (show 1 < 2 by decide)) (fun _ e8 e9 => snd (fun r => e9 ((tr e8).mpr r))) (fun _ e8 e9 => fun _ => gj_nextI (cm_M_eval_275 (d := d + 2 * h + 13) E1.1 (ret ((tr e8).mp e9)))) (fun q9 => absurd rfl q9) (fun q9 => absurd rfl q9) (fun q9 => absurd rfl q9) (fun q9 => absurd rfl q9) (fun q9 => absurd rfl q9) (fun q9 => absurd rfl q9) (fun q9 => absurd rfl q9) (fun q9 => absurd rfl q9) (fun q9 => absurd rfl q9))
end MIsn
