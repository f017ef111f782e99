/-! ===== the reference: BETWEEN ===== -/
theorem lgc_anti (x y : Int64) : lg_cmp y x ≤ 0 ↔ ¬ lg_cmp x y < 0 := by
  unfold lg_cmp
  simp only [gt_iff_lt, Int64.lt_iff_toInt_lt, ← Int64.toInt_inj]
  by_cases h1 : x.toInt < y.toInt
  · rw [if_pos h1, if_neg (by omega), if_neg (by omega)]
    decide
  · rw [if_neg h1]
    by_cases h2 : y.toInt < x.toInt
    · rw [if_pos h2, if_neg (by omega)]
      decide
    · rw [if_neg h2, if_pos (by omega), if_pos (by omega)]
      decide
theorem tc_anti : ∀ (x y : List Int32), sp_tc y x ≤ 0 ↔ ¬ sp_tc x y < 0
  | [], [] => by decide
  | [], _ :: _ => by
    show (1 : Int32) ≤ 0 ↔ ¬ (-1 : Int32) < 0
    decide
  | _ :: _, [] => by
    show (-1 : Int32) ≤ 0 ↔ ¬ (1 : Int32) < 0
    decide
  | a :: x, b :: y => by
    show (if b = a then sp_tc y x else if b < a then -1 else 1) ≤ (0 : Int32) ↔ ¬ (if a = b then sp_tc x y else if a < b then -1 else 1) < (0 : Int32)
    by_cases h : a = b
    · rw [if_pos h, if_pos h.symm]
      exact tc_anti x y
    · rw [if_neg h, if_neg (fun q => h q.symm)]
      by_cases h1 : a < b
      · rw [if_pos h1, if_neg (fun q => by rw [Int32.lt_iff_toInt_lt] at h1 q; omega)]
        decide
      · rw [if_neg h1, if_pos (by
          rw [Int32.lt_iff_toInt_lt] at h1 ⊢
          have : ¬ a.toInt = b.toInt := fun q => h (Int32.toInt_inj.mp q)
          omega)]
        decide
theorem cmp_anti {x y : Va} (h : x.1 = y.1) : sp_cmp y x ≤ 0 ↔ ¬ sp_cmp x y < 0 := by
  unfold sp_cmp
  by_cases h1 : x.1 = 1
  · rw [if_pos h1, if_pos (h.symm.trans h1)]
    exact tc_anti _ _
  · rw [if_neg h1, if_neg (fun q => h1 (h.trans q))]
    exact lgc_anti _ _
theorem told_5 {x y : Va} (h : ¬ x.1 = 3 → ¬ y.1 = 3 → x.1 = y.1) : (if x.1 = 3 ∨ y.1 = 3 then v_null else v_bool (sp_bool (20 + 5) x y)) = v_le y x := by
  unfold v_le
  by_cases q : x.1 = 3 ∨ y.1 = 3
  · rw [if_pos q, if_pos q.symm]
    rfl
  · rw [if_neg q, if_neg (fun r => q r.symm)]
    show v_bool (decide (¬ sp_cmp x y < 0)) = _
    rw [dec_eq (cmp_anti (h (fun e => q (Or.inl e)) (fun e => q (Or.inr e))))]
theorem told_3 {x y : Va} : (if x.1 = 3 ∨ y.1 = 3 then v_null else v_bool (sp_bool (20 + 3) x y)) = v_le x y := rfl
theorem le_32 (x y : Va) : (v_le x y).1 = 3 ∨ (v_le x y).1 = 2 := by
  unfold v_le
  by_cases q : x.1 = 3 ∨ y.1 = 3
  · rw [if_pos q]; exact Or.inl rfl
  · rw [if_neg q]; exact Or.inr rfl
theorem dec0_1 {u v : Va} (ov : v_ok v) (h : v_tr 0 v) : v_dec 0 u v = v := by
  have eb : v = (2, 0, []) := by
    rcases v_bo ov h.1 with r | r
    · exact r
    · exact absurd ((congrArg (fun (v : Va) => v.2.1) r).symm.trans h.2) (by decide)
  unfold v_dec
  rw [if_pos (show v_tr ((0 : Int32).toInt64) _ ∨ v_tr ((0 : Int32).toInt64) _ from Or.inr h), eb]
  rfl
theorem dec0_2 {u v : Va} (ov : v_ok v) (hv : v.1 = 3 ∨ v.1 = 2) (nt : ¬ v_tr 0 u) (nv : ¬ v_tr 0 v) (hu : ¬ u.1 = 3) : v_dec 0 u v = v := by
  unfold v_dec
  rw [if_neg (show ¬ (v_tr ((0 : Int32).toInt64) _ ∨ v_tr ((0 : Int32).toInt64) _) from fun r => r.elim nt nv)]
  rcases hv with y3 | y2
  · rw [if_pos (Or.inr y3), v_nul ov y3]
    rfl
  · rw [if_neg (fun r => r.elim hu (fun r => absurd (r.symm.trans y2) (by decide)))]
    rcases v_bo ov y2 with r | r
    · exact absurd ⟨y2, congrArg (fun (v : Va) => v.2.1) r⟩ nv
    · rw [r]; rfl
theorem dec0_3 {u v : Va} (ou : v_ok u) (nt : ¬ v_tr 0 u) (nv : ¬ v_tr 0 v) (hu : u.1 = 3) : v_dec 0 u v = u := by
  unfold v_dec
  rw [if_neg (show ¬ (v_tr ((0 : Int32).toInt64) _ ∨ v_tr ((0 : Int32).toInt64) _) from fun r => r.elim nt nv), if_pos (Or.inl hu), v_nul ou hu]
  rfl
section MBetw
variable {lo : Nat} {am : Nat → Nat}
theorem rn_btw : BtwR am lo := by
  intro z0 σ0 m1 m2 m3 n b x1 x2 x3 cap u h kv hl hh hN am7 hlo
  obtain ⟨hn, hb⟩ := hN.rg
  have hPE := hN.2.2.2.2.2.2.2.2.pe (Nat.le_refl u) (Nat.le_refl σ0.nx)
  obtain ⟨a1, c1, k1, k1', s1, r1, ⟨a2, c2, k2, k2', s2, r2, ⟨a3, c3, k3, k3', s3, r3, -, e3⟩, e2⟩, e1⟩ := hPE
  refine ⟨hlo, hn.1, hn.2.1, hN.1.1, ⟨es_between, ek_3 r1.2.2.2.2.1.2 r2.2.2.2.2.1.2 r3.2.2.2.2.1.2 (by decide)⟩, nb_rnk (F := fun _ ks => sp_kc 19 ks) hN (show 3 ≤ 100 by decide) (fun kn _ => ck3_hm rfl kn) (fun z l d σ w kn Q ks Km hz A N e => ?_), ?_, hn.2.2⟩
  · obtain ⟨v0, hv⟩ := Km.2.2.2.1
    exact ty_between Km.1 Km.2.1 hv N
  intro z l d σ w kn R q Q E A F g c9 b9 kO kE
  obtain ⟨z1, z2, z3, ze⟩ := ck3_ok (o := 19) c9
  have zk : (sp_kc 19 [(m1.1 kn).2, (m2.1 kn).2, (m3.1 kn).2]).1 = 0 := by rw [← ze]; exact c9
  obtain ⟨f2, f3⟩ := kc_between zk
  have cap3 : 3 ≤ cap := hN.1.2.2.2.2.2.2.2.1
  have cap9 : cap ≤ 100 := hN.2.1.2
  have N' := hN.1.mvx (A n (Or.inl hn)) (A b (Or.inl hb))
  have ev : (ex_between m1 m2 m3).2.1 R = if ¬ (m1.2.1 R).1 = 0 then m1.2.1 R else if ¬ (m2.2.1 R).1 = 0 then m2.2.1 R else if v_tr 0 (v_le (m2.2.1 R).2 (m1.2.1 R).2) then (0, (2, 0, [])) else if ¬ (m3.2.1 R).1 = 0 then m3.2.1 R else (0, v_dec 0 (v_le (m2.2.1 R).2 (m1.2.1 R).2) (v_le (m1.2.1 R).2 (m3.2.1 R).2)) := rfl
  rw [ev] at kO kE
  have d8 : d + 2 * h + 20 = d + 2 * h + 12 + 8 := by omega
  refine go_eq (show d + 2 * h + 13 + 9 = d + 2 * (h + 1) + 20 by omega) (ev_7 (d := d + 2 * h + 13) E.1 E.2.1 N' (cm_M_between (d := d + 2 * h + 12) (b2 := b) (b6 := x1) E.1 N'.1 N'.2.2.2.2.1 N'.2.2.2.1 (by rw [N'.2.2.2.2.2.1]; exact vp_in_nI (n := 0) (by omega) (by omega)) (N'.2.2.2.2.2.2.2.2 0 (show 0 < 3 by decide)) (go_eq d8 (ev_one (d := d) s1 r1 E A F g z1 (by omega) (fun e0 => ?_) (fun e0 σ1 w1 q1 v1 E1 F1 W1 V1 A1 Fr1 => ?_)))))
  · rw [if_pos e0] at kE
    exact fun σ' w' q' E' F' W' _ => gj_nextT (go_out (fun _ h => nomatch h) (fun _ => gj_nextT (go_out (fun _ h => nomatch h) (kE e0 σ' w' q' E' (F'.mono (by omega)) W'))))
  rw [if_neg (fun q => q e0)] at kO kE
  have kb1 := F1.2.2.1
  have N1 := hN.1.mvx (A1 n (Or.inl hn)) (A1 b (Or.inl hb))
  refine fun _ => gj_nextI (cm_M_between_10 (d := d + 2 * h + 12) (b2 := b) (b6 := x2) E1.1 N1.1 N1.2.2.2.2.1 N1.2.2.2.1 (by rw [N1.2.2.2.2.2.1]; exact vp_in_nI (n := 1) (by omega) (by omega)) (N1.2.2.2.2.2.2.2.2 1 (show 1 < 3 by decide)) (go_eq d8 (ev_one (d := d) s2 r2 E1 A1 Fr1 g z2 (by omega) (fun e1 => ?_) (fun e1 σ2 w2 q2 v2 E2 F2 W2 V2 A2 Fr2 => ?_))))
  · rw [if_pos e1] at kE
    exact fun σ' w' q' E' F' W' _ => gj_nextT (go_out (fun _ h => nomatch h) (fun _ => gj_nextT (go_out (fun _ h => nomatch h) (kE e1 σ' w' q' E' (F1.trans F' (by omega)) (W1.trans W')))))
  rw [if_neg (fun q => q e1)] at kO kE
  have ty1 := r1.2.2.2.2.1.1 kn R _ g (show m1.1 kn = (0, (m1.1 kn).2) from Prod.ext z1 rfl) e0
  have ty2 := r2.2.2.2.2.1.1 kn R _ g (show m2.1 kn = (0, (m2.1 kn).2) from Prod.ext z2 rfl) e1
  have k15 := r1.2.2.2.2.1.2 kn R g z1
  have sm2 := ty_same ty1 ty2 f2 k15
  have V12 := V1.mv F2
  have kb2 := F2.2.2.1
  refine fun _ => gj_nextI (cm_M_between_24 (d := d + 2 * h + 12) E2.1 (go_eq (show d + 2 * h + 9 + 11 = d + 2 * h + 12 + 8 by omega) (mo_told (d := d + 2 * h + 9) (kd := 5) (kv := 1) E2 (by omega) V12.1 V2.1 ty1.1.k4 ty2.1.k4 sm2 (by decide) (Nat.le_refl _) (fun σ3 w3 q3 v3 E3 F3 W3 V3' _ => gj_nextI ?_))))
  have V3 : VF σ3 am q3 v3 (v_le (m2.2.1 R).2 (m1.2.1 R).2) := Eq.mp (congrArg (VF σ3 am q3 v3) (told_5 sm2)) V3'
  have ou := v_le_ok (m2.2.1 R).2 (m1.2.1 R).2
  have hu := le_32 (m2.2.1 R).2 (m1.2.1 R).2
  generalize hU : v_le (m2.2.1 R).2 (m1.2.1 R).2 = U at kO kE V3 ou hu
  have kb3 := F3.2.2.1
  obtain ⟨A3, Fr3⟩ := Ag.ev A2 Fr2 F3
  have N3 := hN.1.mvx (A3 n (Or.inl hn)) (A3 b (Or.inl hb))
  have kd0 : ¬ σ3.I 64 n = 1 := by rw [N3.2.2.1]; decide
  have F03 : EvF am σ q σ3 q3 (k1 + k2 + 1) := (F1.trans F2 (Nat.le_refl _)).trans F3 (Nat.le_refl _)
  have W03 := (W1.trans W2).trans W3
  have t16 : σ3.I 70 v3 = 16 ↔ U.1 = 2 := by rw [V3.1.2.1]; exact mty_inj (b := 2) ou.k4 (by decide)
  have tr : σ3.I 70 v3 = 16 → (lg_cmp (σ3.J 71 v3) 0 = 0 ↔ v_tr 0 U) := fun e9 => by
    rw [V3.1.2.2.1 (Or.inr (t16.mp e9)), lgc_eq0]
    exact ⟨fun r => ⟨t16.mp e9, r⟩, fun r => r.2⟩
  have i2 : vp_in (2 : Int32) (σ3.len b) := by rw [N3.2.2.2.2.2.1]; exact vp_in_nI (n := 2) (by omega) (by omega)
  have x3e : σ3.eA b (2 : Int32).toNatClampNeg = some x3 := N3.2.2.2.2.2.2.2.2 2 (show 2 < 3 by decide)
  have third : ¬ v_tr 0 U → Go z l mt_M_eval (d + 2 * h + 12 + 8) 0 [.ref (am 0), .ref x3, .retAddr 0, .retAddr 0, .retAddr 0, .retAddr 0, .retAddr 0] [] (ov σ3 am 7 w3) (fun o σ4 => hp_Le (ov σ3 am 7 w3) σ4 → gj_next z l mt_M_between (d + 2 * h + 12 + 9) 48 [.ref (am 0), .ref n, .ref v1, .ref v3, .ref v3, .retAddr 0] [.ref v1, .int 3, .ref (am 0)] (fun o σ1 => hp_Le (ov σ am 7 w) σ1 → gj_next z l mt_M_eval (d + 2 * h + 13 + 9) 186 [.ref (am 0), .ref n, .retAddr 0, .retAddr 0, .retAddr 0, .retAddr 0, .retAddr 0] [] Q o σ1) o σ4) := fun nt => by
    rw [if_neg nt] at kO kE
    refine go_eq d8 (ev_one (d := d) s3 r3 E3 A3 Fr3 g z3 (by omega) (fun e2 => ?_) (fun e2 σ4 w4 q4 v4 E4 F4 W4 V4 A4 Fr4 => ?_))
    · rw [if_pos e2] at kE
      exact fun σ' w' q' E' F' W' _ => gj_nextT (go_out (fun _ h => nomatch h) (fun _ => gj_nextT (go_out (fun _ h => nomatch h) (kE e2 σ' w' q' E' (F03.trans F' (by omega)) (W03.trans W')))))
    rw [if_neg (fun q => q e2)] at kO
    have ty3 := r3.2.2.2.2.1.1 kn R _ g (show m3.1 kn = (0, (m3.1 kn).2) from Prod.ext z3 rfl) e2
    have sm3 : ¬ (m1.2.1 R).2.1 = 3 → ¬ (m3.2.1 R).2.1 = 3 → (m1.2.1 R).2.1 = (m3.2.1 R).2.1 := fun n1 n3 => by
      have h1 := ty1.2.2.resolve_left n1
      exact ty_same ty1 ty3 (f3 (fun q => n1 (h1.trans q))) k15 n1 n3
    have kb4 := F4.2.2.1
    refine fun _ => gj_nextI (cm_M_between_51 (d := d + 2 * h + 12) E4.1 (go_eq (show d + 2 * h + 9 + 11 = d + 2 * h + 12 + 8 by omega) (mo_told (d := d + 2 * h + 9) (kd := 3) (kv := 1) E4 (by omega) ((V12.mv F3).mv F4).1 V4.1 ty1.1.k4 ty3.1.k4 sm3 (by decide) (Nat.le_refl _) (fun σ5 w5 q5 v5 E5 F5 W5 V5' _ => gj_nextI ?_))))
    have V5 : VF σ5 am q5 v5 (v_le (m1.2.1 R).2 (m3.2.1 R).2) := V5'
    have oz := v_le_ok (m1.2.1 R).2 (m3.2.1 R).2
    have hz := le_32 (m1.2.1 R).2 (m3.2.1 R).2
    generalize v_le (m1.2.1 R).2 (m3.2.1 R).2 = Z at kO V5 oz hz
    obtain ⟨A5, Fr5⟩ := Ag.ev A4 Fr4 F5
    have N5 := hN.1.mvx (A5 n (Or.inl hn)) (A5 b (Or.inl hb))
    have kd5 : ¬ σ5.I 64 n = 1 := by rw [N5.2.2.1]; decide
    have F05 : EvF am σ q σ5 q5 (kv + 2) := (F03.trans F4 (Nat.le_refl _)).trans F5 (by omega)
    have W05 := (W03.trans W4).trans W5
    have V35 := (V3.mv F4).mv F5
    have s16 : σ5.I 70 v5 = 16 ↔ Z.1 = 2 := by rw [V5.1.2.1]; exact mty_inj (b := 2) oz.k4 (by decide)
    have s0 : σ5.I 70 v3 = 0 ↔ U.1 = 3 := by rw [V35.1.2.1]; exact mty_0 ou.k4
    have tr2 : σ5.I 70 v5 = 16 → (lg_cmp (σ5.J 71 v5) 0 = 0 ↔ v_tr 0 Z) := fun e9 => by
      rw [V5.1.2.2.1 (Or.inr (s16.mp e9)), lgc_eq0]
      exact ⟨fun r => ⟨s16.mp e9, r⟩, fun r => r.2⟩
    have n16 : ¬ σ5.I 70 v5 = 16 → ¬ v_tr 0 Z := fun e9 r => e9 (s16.mpr r.1)
    have ntr : σ5.I 70 v5 = 16 → ¬ lg_cmp (σ5.J 71 v5) 0 = 0 → ¬ v_tr 0 Z := fun e8 e9 r => e9 ((tr2 e8).mpr r)
    have retb : v_dec 0 U Z = Z → (hp_Le (ov σ am 7 w) (ov σ5 am 7 w5) → gj_next z l mt_M_eval (d + 2 * h + 13 + 9) 186 [.ref (am 0), .ref n, .retAddr 0, .retAddr 0, .retAddr 0, .retAddr 0, .retAddr 0] [] Q (.returned (some (.ref v5))) (ov σ5 am 7 w5)) := fun ed _ => by
      rw [ed] at kO
      exact gj_nextI (cm_M_eval_189 (d := d + 2 * h + 13) E5.1 (kO rfl σ5 w5 q5 v5 E5 F05 W05 V5))
    have reta : v_dec 0 U Z = U → (hp_Le (ov σ am 7 w) (ov σ5 am 7 w5) → gj_next z l mt_M_eval (d + 2 * h + 13 + 9) 186 [.ref (am 0), .ref n, .retAddr 0, .retAddr 0, .retAddr 0, .retAddr 0, .retAddr 0] [] Q (.returned (some (.ref v3))) (ov σ5 am 7 w5)) := fun ed _ => by
      rw [ed] at kO
      exact gj_nextI (cm_M_eval_189 (d := d + 2 * h + 13) E5.1 (kO rfl σ5 w5 q5 v3 E5 F05 W05 V35))
    exact cm_M_between_54 (d := d + 2 * h + 12) E5.1 V5.1.1 V35.1.1 N5.1 (fun e8 e9 _ => reta (dec0_3 ou nt (n16 e8) (s0.mp e9))) (fun _ _ q9 => absurd q9 kd5) (fun e8 e9 _ => retb (dec0_2 oz hz nt (n16 e8) (fun r => e9 (s0.mpr r)))) (fun _ _ q9 => absurd q9 kd5) (fun e7 e8 e9 _ => reta (dec0_3 ou nt (ntr e7 e8) (s0.mp e9))) (fun _ _ _ q9 => absurd q9 kd5) (fun e7 e8 e9 _ => retb (dec0_2 oz hz nt (ntr e7 e8) (fun r => e9 (s0.mpr r)))) (fun _ _ _ q9 => absurd q9 kd5) (fun e7 e8 _ => retb (dec0_1 oz ((tr2 e7).mp e8))) (fun _ _ q9 => absurd q9 kd5)
  refine cm_M_between_27 (d := d + 2 * h + 12) (b3 := b) (b7 := x3) (b9 := b) (b13 := x3) E3.1 V3.1.1 N3.1 N3.2.2.2.2.1 N3.2.2.2.2.1 (fun _ => N3.2.2.2.1) (fun _ => i2) (fun _ => x3e) (fun e8 => third (fun r => e8 (t16.mpr r.1))) (fun _ _ => N3.2.2.2.1) (fun _ _ => i2) (fun _ _ => x3e) (fun e8 e9 => third (fun r => e9 ((tr e8).mpr r))) (fun e8 e9 _ => ?_) (fun _ _ q9 => absurd q9 kd0)
  have t0 := (tr e8).mp e9
  rw [if_pos t0] at kO
  have eU : U = (2, 0, []) := by
    rcases v_bo ou t0.1 with r | r
    · exact r
    · exact absurd ((congrArg (fun (v : Va) => v.2.1) r).symm.trans t0.2) (by decide)
  exact fun _ => gj_nextI (cm_M_eval_189 (d := d + 2 * h + 13) E3.1 (kO rfl σ3 w3 q3 v3 E3 (F03.mono (by omega)) W03 (eU ▸ V3)))
end MBetw
