/-! ===== the reference: IN ===== -/
section MIn
variable {lo nlo nhi hl hh : Nat} {σ0 : Hp} {am : Nat → Nat} {n b cap h : Nat} {ps : List Nat}
theorem mo_in_loop {z : State} {l : Launch} {d : Nat} {kn : Nat → Int32} {R : Nat → Va} {v : Nat} {x : Va} {kx : Int32} {Q : Outcome → Hp → Prop} (g : rg_ok kn R) (hND : ND σ0 n b 5 0 ps cap) (hn : Rg nlo nhi hl hh n) (hb : Rg nlo nhi hl hh b) (hcap : cap ≤ 100) (tx : ty_ok kx x) (h5 : ¬ kx = 5) :
    ∀ (rs : List (Ex × Nat)) (i kr kb : Nat) (σ : Hp) (w : Wd) (q : Po) (fl : Bool), PE lo nlo nhi hl hh σ0 am h rs kr → i + rs.length = ps.length → (∀ j, j < rs.length → ps.getD (i + j) 0 = (rs.getD j (ex_null, 0)).2) → EM z σ am w R q → Ag lo nlo nhi hl hh σ0 σ → (∀ a, Dp lo nlo nhi hl hh σ0 a → Fr σ am q a) → VF σ am q v x → (∀ m ∈ rs.map Prod.fst, (m.1 kn).1 = 0 ∧ (¬ kx = 3 → sp_fits (m.1 kn).2 kx)) → kr + rs.length + 1 ≤ kb → q.k + kb ≤ 4000 →
      ((ev_in x (if fl = true then v_null else (2, 0, [])) (rs.map Prod.fst) R).1 = 0 → VR z am R σ w q (ev_in x (if fl = true then v_null else (2, 0, [])) (rs.map Prod.fst) R).2 kb Q) →
      (¬ (ev_in x (if fl = true then v_null else (2, 0, [])) (rs.map Prod.fst) R).1 = 0 → VE z am R σ w q (ev_in x (if fl = true then v_null else (2, 0, [])) (rs.map Prod.fst) R).1 kb Q) →
      Go z l mt_M_among (d + 2 * h + 12 + 9) 16 [.ref (am 0), .ref n, .ref v, .int (b2i fl), .int (nI i), .retAddr 0] [] (ov σ am 7 w) Q := by
  intro rs
  have one : ¬ (1 : Int32) = 0 := by decide
  induction rs with
  | nil =>
    intro i kr kb σ w q fl P hi hps E A F V hms hkb hq kO kE
    have N1 := hND.mvx (A n (Or.inl hn)) (A b (Or.inl hb))
    have hi' : i = ps.length := hi
    have cc : σ.I 68 n ≤ nI i := by
      rw [N1.2.2.2.2.2.2.1]
      exact nI_le (by omega) (by have := N1.2.2.2.2.2.2.2.1; omega)
    have kd1 : ¬ σ.I 64 n = 1 := by rw [N1.2.2.1]; decide
    have ncc : ¬ ¬ σ.I 68 n ≤ nI i := fun q9 => q9 cc
    have kb1 : 0 + 0 + 1 ≤ kb := by
      have h9 : kr + 0 + 1 ≤ kb := hkb
      omega
    cases fl with
    | false =>
      have kO' : VR z am R σ w q (v_bool false) kb Q := kO rfl
      exact cm_M_among_16 (d := d + 2 * h + 12) (b2 := b) (b6 := 0) E.1 N1.1 N1.2.2.2.2.1 (fun _ _ _ => go_eq (show d + 2 * h + 10 + 10 = d + 2 * h + 12 + 8 by omega) (mo_truth (d := d + 2 * h + 10) (p := false) E (by omega) rfl kb1 (fun σ' w' q' v' E' F' W' V' _ => gj_nextI (cm_M_among_121 (d := d + 2 * h + 12) E'.1 (kO' σ' w' q' v' E' F' W' V'))))) (fun _ _ q9 => absurd q9 kd1) (fun _ q9 => absurd rfl q9) (fun q9 => absurd q9 ncc) (fun q9 => absurd q9 ncc) (fun q9 => absurd q9 ncc) (fun q9 => absurd q9 ncc)
    | true =>
      have kO' : VR z am R σ w q v_null kb Q := kO rfl
      exact cm_M_among_16 (d := d + 2 * h + 12) (b2 := b) (b6 := 0) E.1 N1.1 N1.2.2.2.2.1 (fun _ q9 => absurd (show (1 : Int32) = 0 from q9) one) (fun _ q9 => absurd (show (1 : Int32) = 0 from q9) one) (fun _ _ => go_eq (show d + 2 * h + 11 + 9 = d + 2 * h + 12 + 8 by omega) (mo_null (d := d + 2 * h + 11) E (by omega) kb1 (fun σ' w' q' v' E' F' W' V' _ => gj_nextI (cm_M_among_101 (d := d + 2 * h + 12) E'.1 (kO' σ' w' q' v' E' F' W' V'))))) (fun q9 => absurd q9 ncc) (fun q9 => absurd q9 ncc) (fun q9 => absurd q9 ncc) (fun q9 => absurd q9 ncc)
  | cons r rs ih =>
    obtain ⟨m, y⟩ := r
    intro i kr kb σ w q fl P hi hps E A F V hms hkb hq kO kE
    obtain ⟨a, c, k1, k2, sb, rm, P', hk12⟩ := P
    have N1 := hND.mvx (A n (Or.inl hn)) (A b (Or.inl hb))
    have hi' : i + (rs.length + 1) = ps.length := hi
    have hkb' : kr + (rs.length + 1) + 1 ≤ kb := hkb
    have psc : ps.length ≤ cap := N1.2.2.2.2.2.2.2.1
    have cc : ¬ σ.I 68 n ≤ nI i := fun q9 => by
      rw [N1.2.2.2.2.2.2.1] at q9
      exact absurd q9 (nI_ge (by omega) (by omega))
    have ei : (nI i).toNatClampNeg = i := nI_clamp (by omega)
    have ex : ps.getD i 0 = y := hps 0 (Nat.succ_pos _)
    obtain ⟨zm, fm⟩ := hms m List.mem_cons_self
    have hev : ev_in x (if fl = true then v_null else (2, 0, [])) (((m, y) :: rs).map Prod.fst) R = if ¬ (m.2.1 R).1 = 0 then m.2.1 R else if x.1 = 3 ∨ (m.2.1 R).2.1 = 3 then ev_in x (3, 0, []) (rs.map Prod.fst) R else if sp_cmp x (m.2.1 R).2 = 0 then (0, (2, 1, [])) else ev_in x (if fl = true then v_null else (2, 0, [])) (rs.map Prod.fst) R := rfl
    rw [hev] at kO kE
    refine cm_M_among_16 (d := d + 2 * h + 12) (b2 := b) (b6 := y) E.1 N1.1 N1.2.2.2.2.1 (fun q9 => absurd q9 cc) (fun q9 => absurd q9 cc) (fun q9 => absurd q9 cc) (fun _ => N1.2.2.2.1) (fun _ => by rw [N1.2.2.2.2.2.1]; exact vp_in_nI (by omega) (by omega)) (fun _ => by rw [ei, ← ex]; exact N1.2.2.2.2.2.2.2.2 i (by omega)) (fun _ => ?_)
    refine go_eq (show d + 2 * h + 20 = d + 2 * h + 12 + 8 by omega) (ev_one (d := d) sb rm E A F g zm (by omega) (fun e0 => ?_) (fun e0 σ1 w1 q1 v1 E1 F1 W1 V1 A1 Fr1 => ?_))
    · rw [if_pos e0] at kE
      exact fun σ' w' q' E' F' W' _ => gj_nextT (go_out (fun _ h => nomatch h) (kE e0 σ' w' q' E' (F'.mono (by omega)) W'))
    rw [if_neg (fun q => q e0)] at kO kE
    have tm := rm.2.2.2.2.1.1 kn R _ g (show m.1 kn = (0, (m.1 kn).2) from Prod.ext zm rfl) e0
    have sm : ¬ x.1 = 3 → ¬ (m.2.1 R).2.1 = 3 → x.1 = (m.2.1 R).2.1 := fun n1 n3 => ty_same tx tm (fm (fun q => n1 ((tx.2.2.resolve_left n1).trans q))) h5 n1 n3
    have kb1 := F1.2.2.1
    have Vx := V.mv F1
    refine fun _ => gj_nextI (cm_M_among_39 (d := d + 2 * h + 12) E1.1 (go_eq (show d + 2 * h + 9 + 11 = d + 2 * h + 12 + 8 by omega) (mo_told (d := d + 2 * h + 9) (kd := 0) (kv := 1) E1 (by omega) Vx.1 V1.1 tx.1.k4 tm.1.k4 sm (by decide) (Nat.le_refl _) (fun σ2 w2 q2 v2 E2 F2 W2 V2 _ => gj_nextI ?_))))
    obtain ⟨A2, Fr2⟩ := Ag.ev A1 Fr1 F2
    have N2 := hND.mvx (A2 n (Or.inl hn)) (A2 b (Or.inl hb))
    have kb2 := F2.2.2.1
    have F02 : EvF am σ q σ2 q2 (k1 + 1) := F1.trans F2 (Nat.le_refl _)
    have W02 := W1.trans W2
    have kd0 : σ2.I 64 n = 0 := N2.2.2.1
    have ps' : ∀ j, j < rs.length → ps.getD (i + 1 + j) 0 = (rs.getD j (ex_null, 0)).2 := fun j hj => by
      have := hps (j + 1) (Nat.succ_lt_succ hj)
      rw [show i + (j + 1) = i + 1 + j by omega] at this
      exact this
    have nxt := fun (fl' : Bool) => ih (i + 1) k2 (kb - (k1 + 1)) σ2 w2 q2 fl' P' (by omega) ps' E2 A2 Fr2 (Vx.mv F2) (fun m' hm' => hms m' (List.mem_cons_of_mem _ hm')) (by omega) (by omega)
    by_cases e3 : x.1 = 3 ∨ (m.2.1 R).2.1 = 3
    · rw [if_pos e3] at kO kE
      rw [if_pos e3] at V2
      have t0 : σ2.I 70 v2 = 0 := V2.1.2.1
      have n16 : ¬ σ2.I 70 v2 = 16 := by rw [t0]; decide
      refine cm_M_among_42 (d := d + 2 * h + 12) E2.1 V2.1.1 N2.1 (fun _ q9 => absurd t0 q9) (fun _ _ => go_drop 5 ?_) (fun q9 => absurd q9 n16) (fun q9 => absurd q9 n16) (fun q9 => absurd q9 n16) (fun q9 => absurd q9 n16)
      rw [show b2i fl ||| 1 = b2i true by cases fl <;> decide, nI_1]
      exact nxt true (fun e => (kO e).mv F02 W02 (by omega)) (fun e => (kE e).mv F02 W02 (by omega))
    · rw [if_neg e3] at kO kE V2
      have V2' : VF σ2 am q2 v2 (v_bool (decide (sp_cmp x (m.2.1 R).2 = 0))) := V2
      have t16 : σ2.I 70 v2 = 16 := V2'.1.2.1
      have n0 : ¬ σ2.I 70 v2 = 0 := by rw [t16]; decide
      have j9 : σ2.J 71 v2 = (v_bool (decide (sp_cmp x (m.2.1 R).2 = 0))).2.1 := V2'.1.2.2.1 (Or.inr rfl)
      by_cases e4 : sp_cmp x (m.2.1 R).2 = 0
      · rw [if_pos e4] at kO
        rw [decide_eq_true e4] at j9
        have l0 : lg_cmp (σ2.J 71 v2) 1 = 0 := lgc_eq0.mpr j9
        have kO' : VR z am R σ w q (v_bool true) kb Q := kO rfl
        exact cm_M_among_42 (d := d + 2 * h + 12) E2.1 V2.1.1 N2.1 (fun q9 => absurd t16 q9) (fun q9 => absurd t16 q9) (fun _ q9 => absurd l0 q9) (fun _ q9 => absurd l0 q9) (fun _ _ q9 => absurd kd0 q9) (fun _ _ _ => go_eq (show d + 2 * h + 10 + 10 = d + 2 * h + 12 + 8 by omega) (mo_truth (d := d + 2 * h + 10) (p := true) (kv := 1) E2 (by omega) rfl (Nat.le_refl _) (fun σ' w' q' v' E' F' W' V' _ => gj_nextI (cm_M_among_68 (d := d + 2 * h + 12) E'.1 (kO' σ' w' q' v' E' (F02.trans F' (by omega)) (W02.trans W') V')))))
      · rw [if_neg e4] at kO kE
        rw [decide_eq_false e4] at j9
        have l0 : ¬ lg_cmp (σ2.J 71 v2) 1 = 0 := fun q9 => by
          have := (lgc_eq0.mp q9).symm.trans j9
          exact absurd this (by decide)
        refine cm_M_among_42 (d := d + 2 * h + 12) E2.1 V2.1.1 N2.1 (fun q9 => absurd t16 q9) (fun q9 => absurd t16 q9) (fun _ _ _ => go_drop 5 ?_) (fun _ _ q9 => absurd q9 n0) (fun _ q9 => absurd q9 l0) (fun _ q9 => absurd q9 l0)
        rw [show b2i fl ||| 0 = b2i fl by cases fl <;> decide, nI_1]
        exact nxt fl (fun e => (kO e).mv F02 W02 (by omega)) (fun e => (kE e).mv F02 W02 (by omega))
theorem rn_in : InR am lo := by
  intro z0 σ0 m rs n b x cap u h kv hl hh hN am7 hlo hrs
  obtain ⟨hn, hb⟩ := hN.rg
  have hPE := hN.2.2.2.2.2.2.2.2.pe (Nat.le_refl u) (Nat.le_refl σ0.nx)
  have hex := hPE.ex
  obtain ⟨a1, c1, k1, k1', s1, r1, P', e1⟩ := hPE
  have len9 : ((m, x) :: rs).length ≤ 100 := by rw [List.length_cons]; omega
  refine ⟨hlo, hn.1, hn.2.1, hN.1.1, ⟨es_in, ek_n (fun m' hm' => (hex m' hm').2) (by decide)⟩, nb_rnk (F := fun _ ks => sp_kc 18 ks) hN len9 (fun kn _ => ckn_hm rfl kn) (fun z l d σ w kn Q ks Km hz A N e => ?_), ?_, hn.2.2⟩
  · obtain ⟨v0, hv⟩ := Km.2.2.2.1
    exact ty_in Km.1 Km.2.1 hv N
  intro z l d σ w kn R q Q E A F g c9 b9 kO kE
  obtain ⟨zs, ze⟩ := ckn_ok (o := 18) c9
  have zk : (sp_kc 18 ((m.1 kn).2 :: (rs.map Prod.fst).map (fun m => (m.1 kn).2))).1 = 0 := by
    have := c9
    rw [show (ex_in m (rs.map Prod.fst)).1 kn = ckn 18 (m :: rs.map Prod.fst) kn from rfl, ze] at this
    exact this
  have fk := kc_in zk
  have z1 := zs m List.mem_cons_self
  have cap1 : 1 ≤ cap := hN.2.1.1
  have cap9 : cap ≤ 100 := hN.2.1.2
  have N' := hN.1.mvx (A n (Or.inl hn)) (A b (Or.inl hb))
  have ev : (ex_in m (rs.map Prod.fst)).2.1 R = if ¬ (m.2.1 R).1 = 0 then m.2.1 R else ev_in (m.2.1 R).2 (2, 0, []) (rs.map Prod.fst) R := rfl
  rw [ev] at kO kE
  refine go_eq (show d + 2 * h + 13 + 9 = d + 2 * (h + 1) + 20 by omega) (ev_5 (d := d + 2 * h + 13) E.1 E.2.1 N' (cm_M_among (d := d + 2 * h + 12) (b2 := b) (b6 := x) E.1 N'.1 N'.2.2.2.2.1 N'.2.2.2.1 (by rw [N'.2.2.2.2.2.1]; exact vp_in_nI (n := 0) (by omega) (by omega)) (N'.2.2.2.2.2.2.2.2 0 (Nat.succ_pos _)) (go_eq (show d + 2 * h + 20 = d + 2 * h + 12 + 8 by omega) (ev_one (d := d) s1 r1 E A F g z1 (by omega) (fun e0 => ?_) (fun e0 σ1 w1 q1 v1 E1 F1 W1 V1 A1 Fr1 => ?_)))))
  · rw [if_pos e0] at kE
    exact fun σ' w' q' E' F' W' _ => gj_nextT (go_out (fun _ h => nomatch h) (fun _ => gj_nextT (go_out (fun _ h => nomatch h) (kE e0 σ' w' q' E' (F'.mono (by omega)) W'))))
  rw [if_neg (fun q => q e0)] at kO kE
  have ty1 := r1.2.2.2.2.1.1 kn R _ g (show m.1 kn = (0, (m.1 kn).2) from Prod.ext z1 rfl) e0
  have kb1 := F1.2.2.1
  refine fun _ => gj_nextI (cm_M_among_10 (d := d + 2 * h + 12) E1.1 ?_)
  refine mo_in_loop (d := d) g hN.1 hn hb cap9 ty1 (r1.2.2.2.2.1.2 kn R g z1) rs 1 k1' (kv + rs.length + 1 - k1) σ1 w1 q1 false P' (by rw [List.length_map, List.length_cons]; omega) (fun j hj => ?_) E1 A1 Fr1 V1 (fun m' hm' => ⟨zs m' (List.mem_cons_of_mem _ hm'), fun h3 => fk h3 _ (List.mem_map_of_mem hm')⟩) (by omega) (by omega) (fun e => ?_) (fun e => ?_)
  · rw [show 1 + j = j + 1 by omega]
    simp [List.getD, hj]
  · exact fun σ' w' q' v E' F' W' V' _ => gj_nextI (cm_M_eval_108 (d := d + 2 * h + 13) E'.1 (kO e σ' w' q' v E' (F1.trans F' (by omega)) (W1.trans W') V'))
  · exact fun σ' w' q' E' F' W' _ => gj_nextT (go_out (fun _ h => nomatch h) (kE e σ' w' q' E' (F1.trans F' (by omega)) (W1.trans W')))
end MIn
