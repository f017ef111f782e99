/-! ===== nodes of arithmetic, NOT, minus, IS NULL ===== -/
section MWrk
variable {lo : Nat} {am : Nat → Nat}
theorem rn_wrk {kdf : Nat → Int32} {vd : Nat → Prop} (hv : ∀ o, vd o → (28 ≤ o ∧ o ≤ 32 ∧ kdf o = nI (o - 28)) ∨ (o = 27 ∧ kdf o = 5)) : PairR am lo 14 kdf ex_2 vd := by
  intro o σ0 m1 m2 n x y a c1 c2 e2 e h k1 k2 hl hh v9 N h1 h2 h3 hho r1 r2
  obtain ⟨K, hn, hb⟩ := pair_K h1 h2 h3 hho r1 r2
  have hvo := hv o v9
  have tk : sp_takes o 2 = true := by
    unfold sp_takes
    rw [if_neg (by omega), if_neg (by omega), if_neg (by omega), if_neg (by omega)]
    exact decide_eq_true (by omega)
  have h34 : ¬ o = 34 := by omega
  have rs : (op_result.getD o 0 = 2 ∨ op_result.getD o 0 = 0) ∨ o = 27 := by
    rcases hvo with ⟨a1, a2, -⟩ | ⟨a1, -⟩
    · exact Or.inl (Or.inr ((by decide +kernel : ∀ o, o < 33 → 28 ≤ o → op_result.getD o 0 = 0) o (by omega) a1))
    · exact Or.inr a1
  have r5 : ¬ op_result.getD o 0 = 5 := (by decide +kernel : ∀ o, o < 33 → 27 ≤ o → ¬ op_result.getD o 0 = 5) o (by omega) (by omega)
  refine ⟨r1.1, hn.1, hn.2.1, N.1, ⟨es_2 r1.2.2.2.2.1.1 r2.2.2.2.2.1.1 rs, ek_2 r1.2.2.2.2.1.2 r2.2.2.2.2.1.2 r5⟩, rnk_2 rfl N hn hb K (fun z l d σ w Q ks v0 hc hl hv NT9 _ => ?_), ?_, hn.2.2⟩
  · rcases hvo with ⟨a1, a2, a3⟩ | ⟨a1, a3⟩
    · rw [a3] at NT9
      exact ty_work ⟨a1, a2⟩ hc hl hv NT9 (fun e9 => by
        have := (nI_eq (by omega) (by decide)).mp (show nI (o - 28) = nI 5 from e9)
        omega)
    · subst a1
      rw [a3] at NT9
      exact ty_cat hc hl hv NT9
  intro z l d σ w kn R q Q E A F g c b9 kO kE
  obtain ⟨z1, z2, z3⟩ := ck2_0 c
  have N' := N.mvx (A n (Or.inl hn)) (A (n + 1) (Or.inl hb))
  have ev : (ex_2 o m1 m2).2.1 R = ev2 o m1 m2 R := rfl
  rw [ev] at kO kE
  unfold ev2 at kO kE
  refine go_eq (show d + 2 * h + 13 + 9 = d + 2 * (h + 1) + 20 by omega) (ev_14 (d := d + 2 * h + 13) E.1 E.2.1 N' (show 1 ≤ 2 by decide) (show 2 ≤ 100 ∧ 2 ≤ 1000 by decide) (go_eq (show d + 1 + 2 * h + 20 = d + 2 * h + 13 + 8 by omega) (ev_two (d := d + 1) K E A F g z1 z2 (by omega) (fun e0 => ?_) (fun e0 σ1 w1 q1 v1 E1 F1 W1 V1 A1 Fr1 b1 => ?_))))
  · rw [if_pos e0] at kE
    exact fun σ' w' q' E' F' W' _ => gj_nextT (go_out (fun _ h => nomatch h) (kE e0 σ' w' q' E' (F'.mono (by omega)) W'))
  · rw [if_neg (fun q => q e0)] at kO kE
    have N1 := N.mvx (A1 n (Or.inl hn)) (A1 (n + 1) (Or.inl hb))
    refine fun _ => gj_nextI (cm_M_eval_337 (d := d + 2 * h + 13) (b2 := n + 1) (b6 := y) E1.1 N1.1 N1.2.2.2.2.1 N1.2.2.2.1 (by rw [N1.2.2.2.2.2.1]; exact vp_in_nI (n := 1) (by decide) (by decide)) (N1.2.2.2.2.2.2.2.2 1 (show 1 < 2 by decide)) (go_eq (show d + 1 + 2 * h + 20 = d + 2 * h + 13 + 8 by omega) (ev_snd (d := d + 1) K E1 A1 Fr1 g z2 b1 (fun e1 => ?_) (fun e1 σ2 w2 q2 v2 E2 F2 W2 V2 A2 Fr2 => ?_))))
    · rw [if_pos e1] at kE
      exact fun σ' w' q' E' F' W' _ => gj_nextT (go_out (fun _ h => nomatch h) (kE e1 σ' w' q' E' (F1.trans F' (by omega)) (W1.trans W')))
    · rw [if_neg (fun q => q e1)] at kO kE
      have ty1 := r1.2.2.2.2.1.1 kn R _ g (show m1.1 kn = (0, (m1.1 kn).2) from Prod.ext z1 rfl) e0
      have ty2 := r2.2.2.2.2.1.1 kn R _ g (show m2.1 kn = (0, (m2.1 kn).2) from Prod.ext z2 rfl) e1
      have V1' := V1.mv F2
      have N1k : σ1.I 64 n = kdf o := N1.2.2.1
      rw [N1k]
      have F12 := F1.trans F2 (Nat.le_refl _)
      have hE : ∀ {e : Int32}, VE z am R σ w q e (k1 + k2 + 1) Q → VE z am R σ2 w2 q2 e 1 (fun o' σ1 => hp_Le (ov σ2 am 7 w2) σ1 → gj_next z l mt_M_eval (d + 2 * h + 13 + 9) 356 [.ref (am 0), .ref n, .retAddr 0, .retAddr 0, .retAddr 0, .retAddr 0, .ref v1] [] Q o' σ1) := fun hq σ' w' q' E' F' W' _ => gj_nextT (go_out (fun _ h => nomatch h) (hq σ' w' q' E' (F12.trans F' (by omega)) ((W1.trans W2).trans W')))
      have hO : ∀ {r : Va}, VR z am R σ w q r (k1 + k2 + 1) Q → VR z am R σ2 w2 q2 r 1 (fun o' σ1 => hp_Le (ov σ2 am 7 w2) σ1 → gj_next z l mt_M_eval (d + 2 * h + 13 + 9) 356 [.ref (am 0), .ref n, .retAddr 0, .retAddr 0, .retAddr 0, .retAddr 0, .ref v1] [] Q o' σ1) := fun hq σ' w' q' v' E' F' W' V' _ => gj_nextI (cm_M_eval_359 (d := d + 2 * h + 13) E'.1 (hq σ' w' q' v' E' (F12.trans F' (by omega)) ((W1.trans W2).trans W') V'))
      have k4k : q2.k < 4000 := by have := F1.2.2.1; have := F2.2.2.1; omega
      refine fun _ => gj_nextI (cm_M_eval_356 (d := d + 2 * h + 13) E2.1 (go_eq (show d + 2 * h + 10 + 11 = d + 2 * h + 13 + 8 by omega) ?_))
      rcases hvo with ⟨a1, a2, a3⟩ | ⟨a1, a3⟩
      · rw [a3]
        obtain ⟨t1, t2⟩ := (by decide +kernel : ∀ o, o < 33 → 28 ≤ o → op_first.getD o 0 = 0 ∧ op_rest.getD o 0 = 0) o (by omega) a1
        obtain ⟨f1, f2⟩ := kc_due2 tk h34 t1 t2 (by decide) z3
        exact mo_arith (d := d + 2 * h + 10) (kv := 1) ⟨a1, a2⟩ E2 k4k V1'.1 V2.1 (ty_ft ty1 f1 (by decide) (by decide)) (ty_ft ty2 f2 (by decide) (by decide)) (Nat.le_refl _) (fun e9 => hE (kE e9)) (fun e9 => hO (kO e9))
      · subst a1
        rw [a3]
        obtain ⟨f1, f2⟩ := kc_due2 (kw := 1) tk h34 rfl rfl (by decide) z3
        exact mo_cat (d := d + 2 * h + 10) (kv := 1) E2 k4k V1' V2 (ty_ft ty1 f1 (by decide) (by decide)) (ty_ft ty2 f2 (by decide) (by decide)) ty1.1 ty2.1 (Nat.le_refl _) (fun e9 => hE (kE e9)) (fun e9 => hO (kO e9))
theorem rn_prod : PairR am lo 14 kd_prod ex_2 (fun o => ∃ g, g < 35 ∧ og_prod g = o ∧ ¬ o = 0) := rn_wrk (fun o ⟨g, hg, e, e0⟩ => by
  subst e
  have := (by decide +kernel : ∀ g, g < 35 → ¬ og_prod g = 0 → (28 ≤ og_prod g ∧ og_prod g ≤ 32 ∧ kd_prod (og_prod g) = nI (og_prod g - 28))) g hg e0
  exact Or.inl this)
theorem rn_sum : PairR am lo 14 kd_sum ex_2 (fun o => ∃ g, g < 35 ∧ og_sum g = o ∧ ¬ o = 0) := rn_wrk (fun o ⟨g, hg, e, e0⟩ => by
  subst e
  have := (by decide +kernel : ∀ g, g < 35 → ¬ og_sum g = 0 → ((28 ≤ og_sum g ∧ og_sum g ≤ 32 ∧ kd_sum (og_sum g) = nI (og_sum g - 28)) ∨ (og_sum g = 27 ∧ kd_sum (og_sum g) = 5))) g hg e0
  exact this)
/-- one part: the frame -/
theorem rnk_1 {σ0 : Hp} {m m1 : Ex} {nlo nhi n b x a1 c1 cl ch h k1 o : Nat} {opc kd : Int32} (hm : m.1 = ck1 o m1) (hN : ND σ0 n b opc kd [x] 2) (hn : Rg nlo nhi 0 0 n) (hb : Rg nlo nhi 0 0 b) (ha : nlo ≤ a1) (hs : Sb nlo nhi 0 0 a1 c1 cl ch) (r : RepH m1 lo a1 c1 cl ch σ0 am x h k1)
    (hT : ∀ (z : State) (l : Launch) (d : Nat) (σ : Hp) (w : Wd) (Q : Outcome → Hp → Prop) (ks : List Int32) (v0 : Nat), CM z σ am → MLk w am → σ.tag v0 = 10 → NT σ n b opc kd [x] 2 ks → TyR z l d σ am w Q n (sp_kc o ks)) : RNK m lo nlo nhi 0 0 σ0 am n (h + 1) :=
  rnk_node (rs := [(m1, x)]) (F := fun _ => sp_kc o) hN hn hb (show 1 ≤ 100 ∧ 2 ≤ 1000 by decide) rfl ⟨a1, c1, cl, ch, ha, ⟨r.2.1, r.2.2.1, r.2.2.2.2.2.2.2⟩, hs, r.2.2.2.1, r.2.2.2.2.2.1, trivial⟩ (fun kn _ => ck1_hm hm kn) (fun z l d σ w kn Q ks Km hz A N e => by
    obtain ⟨v0, hv⟩ := Km.2.2.2.1
    exact hT z l d σ w Q ks v0 Km.1 Km.2.1 hv N)
theorem one_sb {nlo nhi a c cl ch : Nat} (h1 : nlo ≤ a) (h2 : c ≤ nhi) : Sb nlo nhi 0 0 a c cl ch := ⟨h2, fun r q => ⟨by have := q.1; omega, by have := q.2.1; omega, fun q9 => by omega⟩⟩
theorem one_rg {nlo nhi n : Nat} (h1 : nlo ≤ n) (h2 : n < nhi) : Rg nlo nhi 0 0 n := ⟨h1, h2, fun q9 => by omega⟩
/-- the one part worked out -/
theorem ev_one {z : State} {l : Launch} {d : Nat} {σ σ0 : Hp} {w : Wd} {kn : Nat → Int32} {R : Nat → Va} {q : Po} {M1 : Outcome → Hp → Prop} {m1 : Ex} {nlo nhi hl hh x a1 c1 cl ch h k1 : Nat} (hs : Sb nlo nhi hl hh a1 c1 cl ch) (r : RepH m1 lo a1 c1 cl ch σ0 am x h k1) (E : EM z σ am w R q) (A : Ag lo nlo nhi hl hh σ0 σ) (F : ∀ a, Dp lo nlo nhi hl hh σ0 a → Fr σ am q a) (g : rg_ok kn R) (e1 : (m1.1 kn).1 = 0) (hb : q.k + k1 ≤ 4000)
    (kE1 : ¬ (m1.2.1 R).1 = 0 → VE z am R σ w q (m1.2.1 R).1 k1 M1)
    (kO1 : (m1.2.1 R).1 = 0 → ∀ σ1 w1 q1 v1, EM z σ1 am w1 R q1 → EvF am σ q σ1 q1 k1 → WE w w1 → VF σ1 am q1 v1 (m1.2.1 R).2 → Ag lo nlo nhi hl hh σ0 σ1 → (∀ a, Dp lo nlo nhi hl hh σ0 a → Fr σ1 am q1 a) → M1 (.returned (some (.ref v1))) (ov σ1 am 7 w1)) :
    Go z l mt_M_eval (d + 2 * h + 20) 0 [.ref (am 0), .ref x, .retAddr 0, .retAddr 0, .retAddr 0, .retAddr 0, .retAddr 0] [] (ov σ am 7 w) M1 := by
  refine r.2.2.2.2.2.2.1 z l d σ w kn R q M1 E (A.sub hs) (fun a ha => F a (Dp.sub hs ha)) g e1 hb (fun e0 σ' w' q' v E' F' W' V' => ?_) (fun e0 σ' w' q' E' F' W' => kE1 e0 σ' w' q' E' F' W')
  obtain ⟨A', Fr'⟩ := Ag.ev A F F'
  exact kO1 e0 σ' w' q' v E' F' W' V' A' Fr'
theorem mo_turned {z : State} {l : Launch} {d : Nat} {σ : Hp} {w : Wd} {R : Nat → Va} {q : Po} {Q : Outcome → Hp → Prop} {a : Nat} {x : Va} {kv : Nat} (h : EM z σ am w R q) (hk : q.k < 4000) (hA : VF σ am q a x) (ox : v_ok x) (hx : x.1 = 3 ∨ x.1 = 2) (h1 : 1 ≤ kv) (kk : VR z am R σ w q (if x.1 = 3 then v_null else v_bool (decide (v_tr 0 x))) kv Q) :
    Go z l mt_M_turned (d + 11) 0 [.ref (am 0), .ref a] [] (ov σ am 7 w) Q := by
  have ta : σ.I 70 a = 0 ↔ x.1 = 3 := by rw [hA.1.2.1]; exact mty_0 ox.k4
  refine cm_M_turned (d := d + 2) h.1 hA.1.1 (fun e1 e2 => ?_) (fun e1 e2 => ?_) (fun e => ?_)
  · have x3 : ¬ x.1 = 3 := fun e => e1 (ta.mpr e)
    have x2 := hx.resolve_left x3
    rw [hA.1.2.2.1 (Or.inr x2)] at e2
    rw [if_neg x3, decide_eq_false (fun q9 => e2 (lgc_eq0.mpr q9.2))] at kk
    exact mo_truth (d := d) (p := false) h hk rfl h1 (fun σ' w' q' v E F W V _ => gj_nextI (cm_M_turned_29 (d := d + 2) E.1 (kk σ' w' q' v E F W V)))
  · have x3 : ¬ x.1 = 3 := fun e => e1 (ta.mpr e)
    have x2 := hx.resolve_left x3
    rw [hA.1.2.2.1 (Or.inr x2)] at e2
    rw [if_neg x3, decide_eq_true ⟨x2, lgc_eq0.mp e2⟩] at kk
    exact mo_truth (d := d) (p := true) h hk rfl h1 (fun σ' w' q' v E F W V _ => gj_nextI (cm_M_turned_29 (d := d + 2) E.1 (kk σ' w' q' v E F W V)))
  · have x3 := ta.mp e
    rw [if_pos x3] at kk
    have ex : x = v_null := by
      rcases ox with o | o | o | o
      · exact absurd (o.1.symm.trans x3) (by decide)
      · exact absurd (o.1.symm.trans x3) (by decide)
      · exact absurd (o.1.symm.trans x3) (by decide)
      · exact o
    exact kk σ w q a h ((EvF.rfl' am σ q).mono (Nat.zero_le _)) (WE.rfl' w) (ex ▸ hA)
/-- NOT -/
theorem rn_not : OneR am lo 12 0 (ex_1 16) := by
  intro σ0 m1 n x nlo nhi a c cl ch h k1 N h1 h2 h3 h4 h5 r
  have hn := one_rg (nhi := nhi) h2 (show n < nhi by omega)
  have hb := one_rg (nlo := nlo) (nhi := nhi) (n := n + 1) (by omega) (by omega)
  have hs : Sb nlo nhi 0 0 a c cl ch := one_sb h4 h5
  refine ⟨h1, hn.1, hn.2.1, N.1, ⟨es_1 r.2.2.2.2.1.1 (Or.inl (Or.inl rfl)), ek_1 r.2.2.2.2.1.2 (by decide)⟩, rnk_1 rfl N hn hb h4 hs r (fun z l d σ w Q ks v0 hc hl hv NT9 => ty_not hc hl hv NT9), ?_, hn.2.2⟩
  intro z l d σ w kn R q Q E A F g c9 b9 kO kE
  obtain ⟨z1, z3⟩ := ck1_0 c9
  have N' := N.mvx (A n (Or.inl hn)) (A (n + 1) (Or.inl hb))
  have ev : (ex_1 16 m1).2.1 R = ev1 16 m1 R := rfl
  rw [ev] at kO kE
  unfold ev1 at kO kE
  refine go_eq (show d + 2 * h + 13 + 9 = d + 2 * (h + 1) + 20 by omega) (ev_12 (d := d + 2 * h + 13) E.1 E.2.1 N' (show 1 ≤ 1 by decide) (show 1 ≤ 100 ∧ 2 ≤ 1000 by decide) (go_eq (show d + 1 + 2 * h + 20 = d + 2 * h + 13 + 8 by omega) (ev_one (d := d + 1) hs r E A F g z1 (by omega) (fun e0 => ?_) (fun e0 σ1 w1 q1 v1 E1 F1 W1 V1 A1 Fr1 => ?_))))
  · rw [if_pos e0] at kE
    exact fun σ' w' q' E' F' W' _ => gj_nextT (go_out (fun _ h => nomatch h) (kE e0 σ' w' q' E' (F'.mono (by omega)) W'))
  · rw [if_neg (fun q => q e0)] at kO
    have ty1 := r.2.2.2.2.1.1 kn R _ g (show m1.1 kn = (0, (m1.1 kn).2) from Prod.ext z1 rfl) e0
    have f1 := kc_due1 (kw := 2) (by decide) (by decide) rfl (by decide) z3
    refine fun _ => gj_nextI (cm_M_eval_287 (d := d + 2 * h + 13) E1.1 (go_eq (show d + 2 * h + 10 + 11 = d + 2 * h + 13 + 8 by omega) (mo_turned (d := d + 2 * h + 10) (kv := 1) E1 (by have := F1.2.2.1; omega) V1 ty1.1 (ty_ft ty1 f1 (by decide) (by decide)) (Nat.le_refl _) (fun σ2 w2 q2 v2 E2 F2 W2 V2 _ => gj_nextI (cm_M_eval_290 (d := d + 2 * h + 13) E2.1 ?_)))))
    by_cases x3 : (m1.2.1 R).2.1 = 3
    · rw [if_pos x3] at kO V2
      exact kO rfl σ2 w2 q2 v2 E2 (F1.trans F2 (Nat.le_refl _)) (W1.trans W2) V2
    · rw [if_neg x3] at kO V2
      exact kO rfl σ2 w2 q2 v2 E2 (F1.trans F2 (Nat.le_refl _)) (W1.trans W2) V2
/-- a minus in front -/
theorem rn_minus : OneR am lo 13 0 (ex_1 33) := by
  intro σ0 m1 n x nlo nhi a c cl ch h k1 N h1 h2 h3 h4 h5 r
  have hn := one_rg (nhi := nhi) h2 (show n < nhi by omega)
  have hb := one_rg (nlo := nlo) (nhi := nhi) (n := n + 1) (by omega) (by omega)
  have hs : Sb nlo nhi 0 0 a c cl ch := one_sb h4 h5
  refine ⟨h1, hn.1, hn.2.1, N.1, ⟨es_1 r.2.2.2.2.1.1 (Or.inl (Or.inr rfl)), ek_1 r.2.2.2.2.1.2 (by decide)⟩, rnk_1 rfl N hn hb h4 hs r (fun z l d σ w Q ks v0 hc hl hv NT9 => ty_minus hc hl hv NT9), ?_, hn.2.2⟩
  intro z l d σ w kn R q Q E A F g c9 b9 kO kE
  obtain ⟨z1, z3⟩ := ck1_0 c9
  have N' := N.mvx (A n (Or.inl hn)) (A (n + 1) (Or.inl hb))
  have ev : (ex_1 33 m1).2.1 R = ev1 33 m1 R := rfl
  rw [ev] at kO kE
  unfold ev1 at kO kE
  refine go_eq (show d + 2 * h + 13 + 9 = d + 2 * (h + 1) + 20 by omega) (ev_13 (d := d + 2 * h + 13) E.1 E.2.1 N' (show 1 ≤ 1 by decide) (show 1 ≤ 100 ∧ 2 ≤ 1000 by decide) (go_eq (show d + 1 + 2 * h + 20 = d + 2 * h + 13 + 8 by omega) (ev_one (d := d + 1) hs r E A F g z1 (by omega) (fun e0 => ?_) (fun e0 σ1 w1 q1 v1 E1 F1 W1 V1 A1 Fr1 => ?_))))
  · rw [if_pos e0] at kE
    exact fun σ' w' q' E' F' W' _ => gj_nextT (go_out (fun _ h => nomatch h) (kE e0 σ' w' q' E' (F'.mono (by omega)) W'))
  · rw [if_neg (fun q => q e0)] at kO kE
    have ty1 := r.2.2.2.2.1.1 kn R _ g (show m1.1 kn = (0, (m1.1 kn).2) from Prod.ext z1 rfl) e0
    have f1 := kc_due1 (kw := 0) (by decide) (by decide) rfl (by decide) z3
    have ta : σ1.I 70 v1 = 0 ↔ (m1.2.1 R).2.1 = 3 := by rw [V1.1.2.1]; exact mty_0 ty1.1.k4
    refine fun _ => gj_nextI (cm_M_eval_301 (d := d + 2 * h + 13) E1.1 V1.1.1 (fun e1 => ?_) (fun e1 => ?_))
    · have x3 : ¬ (m1.2.1 R).2.1 = 3 := fun e => e1 (ta.mpr e)
      have x0 := (ty_ft ty1 f1 (by decide) (by decide)).resolve_left x3
      rw [V1.1.2.2.1 (Or.inl x0)]
      rw [if_neg x3] at kO kE
      have st : sp_st 33 (m1.2.1 R).2 v_null v_null = (sp_fin (0, -(m1.2.1 R).2.2.1), (0, -(m1.2.1 R).2.2.1, [])) := rfl
      rw [st] at kO kE
      exact go_eq (show d + 2 * h + 11 + 10 = d + 2 * h + 13 + 8 by omega) (mo_number (d := d + 2 * h + 11) (kv := 1) E1 (by have := F1.2.2.1; omega) (Nat.le_refl _) (fun e4 σ' w' q' E' F' W' _ => gj_nextT (go_out (fun _ h => nomatch h) (by
        have k9 := kE (by rw [e4]; exact (show ¬ (4 : Int32) = 0 by decide)) σ' w' q' E' (F1.trans F' (Nat.le_refl _)) (W1.trans W')
        rw [e4] at k9
        exact k9))) (fun e4 σ' w' q' v E' F' W' V' _ => gj_nextI (cm_M_eval_326 (d := d + 2 * h + 13) E'.1 (kO e4 σ' w' q' v E' (F1.trans F' (Nat.le_refl _)) (W1.trans W') V'))))
    · have x3 := ta.mp e1
      rw [if_pos x3] at kO
      have ex : (m1.2.1 R).2 = v_null := by
        rcases ty1.1 with o | o | o | o
        · exact absurd (o.1.symm.trans x3) (by decide)
        · exact absurd (o.1.symm.trans x3) (by decide)
        · exact absurd (o.1.symm.trans x3) (by decide)
        · exact o
      exact kO rfl σ1 w1 q1 v1 E1 (F1.mono (by omega)) W1 (ex ▸ V1)
end MWrk
