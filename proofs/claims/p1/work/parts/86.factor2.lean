/-! ===== names, factors ===== -/
section Fac2
variable {z : State} {l : Launch} {σ : Hp} {ad : Nat → Nat} {op sg : Nat → Nat} {aO aS mO mS : Nat} {T : Nat → Int32} {L : Nat} {E k : Nat}
theorem ofFun_le (s e : Nat) : 35 ≤ sc_ofFun T s e ∧ sc_ofFun T s e < 43 := by
  have := idx_le (sc_lows T s e) sc_funs
  have hl : sc_funs.length = 7 := rfl
  unfold sc_ofFun
  omega
theorem cg_name {d : Nat} {w : Wd} {Q : Outcome → Hp → Prop} {p ops n c : Nat} {ko : Nat → Nat} (hp : PP z σ ad op sg aO aS mO mS L) (hG : GS ad op sg T L w p ops n c ko) (hg : tk_g T L p = 15)
    (kf : tk_g T L (tk_e T L p) = 30 → ∀ w1, NF w w1 → GS ad op sg T L w1 (tk_e T L p) ops n c ko → Q (.returned (some (.ref (op (sc_ofFun T (tk_s T L p) (tk_e T L p)))))) (ov σ ad 21 w1))
    (kr : ¬ tk_g T L (tk_e T L p) = 30 → sc_reg T (tk_s T L p) (tk_e T L p) < 8 → ∀ w2, PF w w2 → GS ad op sg T L w2 (tk_e T L p) ops (n + 1) c (va_up ko n 5) → w2.eJ 14 = va_up (w.eJ 14) n (lN (sc_reg T (tk_s T L p) (tk_e T L p))) → w2.eI 15 = w.eI 15 → Q (.returned (some (.ref (op 0)))) (ov σ ad 21 w2))
    (ke : ¬ tk_g T L (tk_e T L p) = 30 → ¬ sc_reg T (tk_s T L p) (tk_e T L p) < 8 → ∀ w2, PF w w2 → BS ad op sg w2 (tk_s T L p) → Q (.returned (some (.ref (op 0)))) (ov σ ad 21 w2)) :
    Go z l mt_P_nameOrFunction (d + 30) 0 [.ref (ad 16), .retAddr 0, .retAddr 0, .retAddr 0] [] (ov σ ad 21 w) Q := by
  have h1000 := gs_1000 hG
  have ht := tk_le (T := T) hG.2.2.2.2.2.2.2.2.2.2.1
  have h1 := ht.2.2.2.1 (by rw [hg]; decide)
  have hle := ht.2.2.2.2.2.2.2
  have nle : n ≤ tk_s T L p := hG.2.2.2.2.2.2.2.2.1
  have h24 : w.I 17 24 = nI (tk_s T L p) := hG.2.2.2.1.2.1
  have h25 : w.I 17 25 = nI (tk_e T L p) := hG.2.2.2.1.2.2.1
  have mid : ∀ v3 : Int32, ((sc_reg T (tk_s T L p) (tk_e T L p) < 8 ∧ v3 = nI (sc_reg T (tk_s T L p) (tk_e T L p))) ∨ (¬ sc_reg T (tk_s T L p) (tk_e T L p) < 8 ∧ v3 = -1)) → Go z l mt_P_nameOrFunction (d + 30) 23 [.ref (ad 16), .int (nI (tk_s T L p)), .int (nI (tk_e T L p)), .retAddr 0] [.int v3] (ov σ ad 21 w) Q := fun v3 hv => by
    refine cs_P_nameOrFunction_23 (d := d + 21) hp.1 hG.1.1 (cg_next (d := d + 9) hp hG (fun w1 f1 G1 _ => gj_nextV ?_))
    have G1' := gs_1000 G1
    have hs1 : (sc_reg T (tk_s T L p) (tk_e T L p) < 8 ∧ v3 = nI (sc_reg T (tk_s T L p) (tk_e T L p))) → ¬ v3 = -1 := fun h q => by
      rw [h.2] at q
      exact n1_ne (by omega) q
    have hno : ¬ w1.I 16 30 = -1 → False := fun h => h G1.2.2.2.2.1
    refine cs_P_nameOrFunction_31 (d := d + 21) hp.1 hp.2.1 G1.1.1 G1.1.2.1 G1.2.2.2.1.2.2.2.1 (fun h h2 => ?_) (fun _ _ h => absurd (hno h) id) (fun h h2 _ => ?_) (fun h => ?_)
    · have h30 : ¬ tk_g T L (tk_e T L p) = 30 := fun q => h (by rw [q])
      rcases hv with hv | hv
      · rw [hv.2, lN_ofI (by omega)]
        refine cg_addG (d := d + 20) hp (by decide) G1 (by omega) (fun w2 f2 G2 r1 r2 _ => gj_nextI (cs_P_nameOrFunction_79 (d := d + 21) hp.1 hp.2.1 (kr h30 hv.1 w2 ((PF.nf f1).trans f2) G2 ?_ ?_)))
        · rw [r1, f1.2.2.2.2.1]
        · rw [r2, f1.2.2.2.1]
      · exact absurd hv.2 h2
    · have h30 : ¬ tk_g T L (tk_e T L p) = 30 := fun q => h (by rw [q])
      rcases hv with hv | hv
      · exact absurd h2 (hs1 hv)
      · exact ke h30 hv.1 _ ((PF.nf f1).trans (pf_at _ _)) (bs_at G1.1 G1.2.2.2.2.2.2.1 (by omega) rfl (by omega))
    · have h30 := sg_inj hp.2.1 G1.g (by decide) h
      exact co_ofFun (d := d + 11) hp.1 hp.2.1 hp.2.2.2 (Nat.lt_of_le_of_lt (Nat.zero_le (tk_s T L p)) (Nat.lt_of_lt_of_le (show tk_s T L p < tk_e T L p by omega) G1.2.2.2.2.2.2.2.2.2.2.1)) G1.2.1 (by omega) (by omega) (fun _ => gj_nextI (cs_P_nameOrFunction_53 (d := d + 21) hp.1 hp.2.1 (kf h30 w1 f1 G1)))
  refine cs_P_nameOrFunction (d := d + 21) hp.1 hG.1.1 ?_
  rw [h24, h25]
  exact cg_reg (d := d + 20) hp hG hg (fun h _ => gj_nextI (mid _ (.inl ⟨h, rfl⟩))) (fun h _ => gj_nextI (mid _ (.inr ⟨h, rfl⟩)))
theorem lst_name {X : PX} {p ops : Nat} (h30 : tk_g T L (tk_e T L p) = 30) : sp_name T L X k p ops = match sp_lst T L X k false (tk_e T L p) ops with
    | .error e => .error e
    | .ok (ms, p2, o2) => .ok (ex_fun (sc_ofFun T (tk_s T L p) (tk_e T L p)) ms, p2, o2) := by
  unfold sp_name sp_lst sp_args
  rw [if_pos h30, if_pos h30]
  by_cases h31 : tk_g T L (tk_e T L (tk_e T L p)) = 31
  · rw [if_pos h31, if_pos ⟨rfl, h31⟩]
    show sp_take T L 31 _ _ _ = match sp_take T L 31 _ _ _ with
      | .error e => .error e
      | .ok (ms, p2, o2) => .ok (ex_fun (sc_ofFun T (tk_s T L p) (tk_e T L p)) ms, p2, o2)
    unfold sp_take
    rw [if_pos h31, if_pos h31]
  · rw [if_neg h31, if_neg (fun q => h31 q.2)]
    cases sp_list T L X k 8 (tk_e T L (tk_e T L p)) ops with
    | error e => rfl
    | ok x =>
      obtain ⟨ms, p2, o2⟩ := x
      show sp_take T L 31 _ _ _ = match sp_take T L 31 _ _ _ with
        | .error e => .error e
        | .ok (ms, p2, o2) => .ok (ex_fun (sc_ofFun T (tk_s T L p) (tk_e T L p)) ms, p2, o2)
      unfold sp_take
      split <;> rfl
section FacB
theorem tb_fac (hp : PP z σ ad op sg aO aS mO mS L) {d e j : Nat} {w : Wd} {v1 v3 : Int32} {v4 : Value} {Q : Outcome → Hp → Prop} (hj : j ≤ 100) (hW : BS ad op sg w e) (kk : ∀ w', PF w w' → BS ad op sg w' e → Q (.returned none) (ov σ ad 21 w')) : Go z l mt_P_addEach (d + E + 41) 0 [.ref (ad 16), .ref (op 33), .int (nI j), .retAddr 0] [] (ov σ ad 21 w) (fun o σ1 => hp_Le (ov σ ad 21 w) σ1 → gj_next z l mt_P_factor (d + E + 42) 134 [.ref (ad 16), .int v1, .int (nI j), .int v3, v4] [] Q o σ1) :=
  cb_each (d := d + E + 31) hp (by decide) hW hj (fun w1 f1 B1 _ => gj_nextV (go_drop 4 (cs_P_factor_137 (d := d + E + 33) hp.1 (kk w1 f1 B1))))
theorem rb_factor (hp : PP z σ ad op sg aO aS mO mS L) : RB z l σ ad op sg mt_P_factor [.ref (ad 16), .int (nI k), .retAddr 0, .retAddr 0, .retAddr 0] E 42 := by
  intro d w e Q hW kk
  obtain ⟨b1, b2, b3, n0, ko0, b4, -, -⟩ := id hW
  refine cs_P_factor (d := d + E + 33) hp.1 hp.2.1 (cb_front (d := d + E + 32) hp (by decide) hW (fun _ => gj_nextI ?_))
  refine cs_P_factor_8 (d := d + E + 33) hp.1 hp.2.1 b4.1 b1 (by decide) (fun _ => ?_) (fun h => absurd h (by decide +kernel)) (fun h => absurd h (by decide +kernel)) (fun h => absurd h (by decide +kernel))
  exact rb_constant hp d w e _ hW (fun w1 f1 B1 _ => gj_nextV (cs_P_factor_129 (d := d + E + 33) hp.1 hp.2.1 (tb_fac hp (j := 0) (by decide) B1 (fun w2 f2 B2 => kk w2 (f1.trans f2) B2))))
/-- what is in front is put behind -/
theorem fac_fin (hp : PP z σ ad op sg aO aS mO mS L) {d j q : Nat} {w w1 w2 : Wd} {p ops n c : Nat} {ko : Nat → Nat} {v1 v3 : Int32} {v4 : Value} {Q : Outcome → Hp → Prop} {r : Pr} (hG : GS ad op sg T L w p ops n c ko) (hf1 : NF w w1) (hG1 : GS ad op sg T L w1 q ops n c ko) (hj : j ≤ 30) (hq : tk_s T L p + j ≤ tk_s T L q) (hPO : PO ad op sg T L w1 q ops n n c ko r w2)
    (kk : ∀ w', PO ad op sg T L w p ops n n c ko (match r with
      | .error e => .error e
      | .ok (m, p2, o2) => .ok (ex_it 33 j m, p2, o2)) w' → Q (.returned none) (ov σ ad 21 w')) :
    Go z l mt_P_addEach (d + E + 41) 0 [.ref (ad 16), .ref (op 33), .int (nI j), .retAddr 0] [] (ov σ ad 21 w2) (fun o σ1 => hp_Le (ov σ ad 21 w2) σ1 → gj_next z l mt_P_factor (d + E + 42) 134 [.ref (ad 16), .int v1, .int (nI j), .int v3, v4] [] Q o σ1) := by
  have ej1 : w1.eJ 14 = w.eJ 14 := by rw [hf1.2.2.2.2.1]
  have ei1 : w1.eI 15 = w.eI 15 := by rw [hf1.2.2.2.1]
  cases r with
  | error e => exact tb_fac hp (by omega) hPO.2 (fun w3 f3 B3 => kk w3 (po_err rfl ((PF.nf hf1).trans (hPO.1.trans f3)) B3))
  | ok x =>
    obtain ⟨m, p2, o2⟩ := x
    obtain ⟨f2, ho, n2, c2, ko2, G2, R2, g2⟩ := hPO
    have gg := g2.2.2
    have nle : n ≤ tk_s T L p := hG.2.2.2.2.2.2.2.2.1
    refine cg_each (d := d + E + 31) hp (.inr rfl) G2 R2 (by omega) (fun w3 ko3 f3 G3 R3 k3 r3 _ => gj_nextV (go_drop 4 (cs_P_factor_137 (d := d + E + 33) hp.1 (kk w3 (po_ok rfl ((PF.nf hf1).trans (f2.trans f3)) ho G3 R3 ⟨fun x hx => ?_, fun x hx => ?_, by omega, by omega, by omega, by omega⟩)))))
    · rw [(k3 x (by omega)).1, (k3 x (by omega)).2, (g2.1 x hx).1, (g2.1 x hx).2, ej1]
      exact ⟨rfl, rfl⟩
    · rw [r3, g2.2.1 x hx, ei1]
end FacB
section FacG
variable {X : PX}
theorem rg_factor (hp : PP z σ ad op sg aO aS mO mS L) (hB : ∀ k', k' ≤ 100 → RB z l σ ad op sg mt_P_expression [.ref (ad 16), .int (nI k'), .retAddr 0, .retAddr 0] E 40) (hX : ∀ k', k < k' → k' ≤ 31 → RG z l σ ad op sg T L mt_P_expression [.ref (ad 16), .int (nI k'), .retAddr 0, .retAddr 0] E 40 (X k')) (hk : k ≤ 30) : RG z l σ ad op sg T L mt_P_factor [.ref (ad 16), .int (nI k), .retAddr 0, .retAddr 0, .retAddr 0] E 42 (sp_factor T L X k) := by
  intro d w p ops n c ko Q hG kk
  refine cs_P_factor (d := d + E + 33) hp.1 hp.2.1 (cg_front (d := d + E + 20) hp (by decide) hk hG (fun j q hq w1 f1 G1 _ => gj_nextI ?_) (fun e he w1 v f1 B1 hv _ => gj_nextI ?_))
  · have hpL : p ≤ L := hG.2.2.2.2.2.2.2.2.2.2.1
    obtain ⟨fl1, fl2, fl3⟩ := front_le (s := 25) (by decide) _ _ _ _ hpL hq
    have nle : n ≤ tk_s T L p := hG.2.2.2.2.2.2.2.2.1
    have es : sp_factor T L X k p ops = match sp_prim T L X (k + j) q ops with
        | .error e => .error e
        | .ok (m, p2, o2) => .ok (ex_it 33 j m, p2, o2) := by
      rw [sp_factor, hq]
      rfl
    have ht := tk_le (T := T) fl2
    have ekj : nI k + nI j = nI (k + j) := pk_add
    have hB1 := hB (k + j + 1) (by omega)
    have hX1 := hX (k + j + 1) (by omega) (by omega)
    have fin : ∀ (w2 : Wd) (v4 : Value), PO ad op sg T L w1 q ops n n c ko (sp_prim T L X (k + j) q ops) w2 → Go z l mt_P_addEach (d + E + 41) 0 [.ref (ad 16), .ref (op 33), .int (nI j), .retAddr 0] [] (ov σ ad 21 w2) (fun o σ1 => hp_Le (ov σ ad 21 w2) σ1 → gj_next z l mt_P_factor (d + E + 42) 134 [.ref (ad 16), .int (nI k), .int (nI j), .int (nI (k + j)), v4] [] Q o σ1) := fun w2 v4 h => fac_fin hp hG f1 G1 (by omega) fl1 h (fun w' hw' => kk w' (by rw [es]; exact hw'))
    refine cs_P_factor_8 (d := d + E + 33) hp.1 hp.2.1 G1.1.1 G1.2.2.2.1.2.2.2.1 G1.g (fun h => ?_) (fun h => ?_) (fun h => ?_) (fun h => ?_)
    · obtain ⟨a1, a2, a3⟩ := sgm_f _ G1.g h
      rw [ekj]
      have ep : sp_prim T L X (k + j) q ops = sp_const T L q ops := (if_neg a1).trans ((if_neg a2).trans (if_neg a3))
      exact rg_constant hp d w1 q ops n c ko _ G1 (fun w2 hPO _ => gj_nextV (cs_P_factor_129 (d := d + E + 33) hp.1 hp.2.1 (fin w2 _ (by rw [ep]; exact hPO))))
    · have hg := sgm_1 _ G1.g h
      have ep : sp_prim T L X (k + j) q ops = sp_name T L X (k + j) q ops := if_pos hg
      have h1 := ht.2.2.2.1 (by rw [hg]; decide)
      have hle := ht.2.2.2.2.2.2.2
      rw [ekj]
      refine cg_name (d := d + E + 11) hp G1 hg (fun h30 w2 f2 G2 _ => gj_nextI ?_) (fun h30 hr w2 f2 G2 r1 r2 _ => gj_nextI ?_) (fun h30 hr w2 f2 B2 _ => gj_nextI ?_)
      · have of := ofFun_le (T := T) (tk_s T L q) (tk_e T L q)
        have ej2 : w2.eJ 14 = w1.eJ 14 := by rw [f2.2.2.2.2.1]
        have ei2 : w2.eI 15 = w1.eI 15 := by rw [f2.2.2.2.1]
        have lis : ∀ st : Nat, st < 43 → (sc_ofFun T (tk_s T L q) (tk_e T L q) = 40 ∧ st = 13 ∨ ¬ sc_ofFun T (tk_s T L q) (tk_e T L q) = 40 ∧ st = 0) → Go z l mt_P_list (d + E + 41) 0 [.ref (ad 16), .int (nI (k + j)), .ref (op st), .ref (op (sc_ofFun T (tk_s T L q) (tk_e T L q))), .retAddr 0, .retAddr 0, .retAddr 0, .retAddr 0] [] (ov σ ad 21 w2) (fun o σ1 => hp_Le (ov σ ad 21 w2) σ1 → gj_next z l mt_P_factor (d + E + 42) 87 [.ref (ad 16), .int (nI k), .int (nI j), .int (nI (k + j)), .ref (op (sc_ofFun T (tk_s T L q) (tk_e T L q)))] [] Q o σ1) := fun st hst hs => by
          refine rg_list hp of.2 hB1 hst hX1 (by omega) (inn := false) (base := 0) ⟨fun h => by omega, fun h => absurd h (by decide)⟩ rfl G2 (fun ms p' o' hl w3 n1 c' ko' f3 ho G3 hL hk1 ha1 k3 kc3 hn hc hgn hgc _ => gj_nextV (cs_P_factor_90 (d := d + E + 33) hp.1 hp.2.1 (fin w3 _ ?_))) (fun e he w3 f3 B3 _ => gj_nextV (cs_P_factor_90 (d := d + E + 33) hp.1 hp.2.1 (fin w3 _ (po_err (by rw [ep, lst_name h30, he]) ((PF.nf f2).trans f3) B3))))
          refine po_ok (m := ex_fun (sc_ofFun T (tk_s T L q) (tk_e T L q)) ms) (by rw [ep, lst_name h30, hl]) ((PF.nf f2).trans f3) ho G3 ?_ ⟨fun x hx => ?_, fun x hx => ?_, by omega, by omega, by omega, by omega⟩
          · rw [Nat.zero_add] at ha1
            have h1000 := gs_1000 G3
            rcases hL with ⟨a, b⟩ | ⟨a, ps, b, cc, ff⟩
            · rcases hs with hs | hs
              · exact absurd (a.symm.trans hs.2) (by decide)
              · exact rp_fun of.1 of.2 hs.1 b hk1 ha1
            · rcases hs with hs | hs
              · rw [hs.1] at hk1 ⊢
                rw [show ex_fun 40 ms = ex_co ms from if_pos rfl, ← b]
                rw [hs.2] at cc
                exact rp_co cc ff (by omega) hk1 (by rw [ha1, ← b, List.length_map])
              · exact absurd hs.2 a
          · rw [(k3 x hx).1, (k3 x hx).2, ej2]
            exact ⟨rfl, rfl⟩
          · rw [kc3 x hx, ei2]
        refine cs_P_factor_56 (d := d + E + 33) hp.1 hp.2.1 (fun h0 => ?_) (fun _ h40 => lis 0 (by decide) (.inr ⟨fun q => h40 (by rw [q]), rfl⟩)) (fun _ h40 => lis 13 (by decide) (.inl ⟨op_inj hp.2.1 of.2 (by decide) h40, rfl⟩))
        have := op_inj hp.2.1 of.2 (by decide) h0
        omega
      · refine cs_P_factor_56 (d := d + E + 33) (s0 := 0) hp.1 hp.2.1 (fun _ => fin w2 _ ?_) (fun h => absurd rfl h) (fun h => absurd rfl h)
        refine po_ok (m := ex_reg (sc_reg T (tk_s T L q) (tk_e T L q))) (by rw [ep, sp_name, if_neg h30, if_pos hr]) f2 (Nat.le_refl _) G2 (rp_reg hr (hp_up_same _ _ _) (by rw [r1]; exact hp_up_same _ _ _)) ⟨fun x hx => ?_, fun x hx => by rw [r2], by omega, Nat.le_refl _, by omega, by omega⟩
        rw [r1]
        exact ⟨hp_up_ne _ _ (by omega), hp_up_ne _ _ (by omega)⟩
      · exact cs_P_factor_56 (d := d + E + 33) (s0 := 0) hp.1 hp.2.1 (fun _ => fin w2 _ (po_err (by rw [ep, sp_name, if_neg h30, if_neg hr]) f2 B2)) (fun h => absurd rfl h) (fun h => absurd rfl h)
    · have hg := sgm_2 _ G1.g h
      have ep : sp_prim T L X (k + j) q ops = sp_case T L X (k + j) q ops := (if_neg (by rw [hg]; decide)).trans (if_pos hg)
      rw [ekj]
      exact rg_choice hp hB1 hX1 G1 hg (fun w2 hPO _ => gj_nextV (cs_P_factor_98 (d := d + E + 33) hp.1 hp.2.1 (fin w2 _ (by rw [ep]; exact hPO))))
    · have hg := sgm_3 _ G1.g h
      have ep : sp_prim T L X (k + j) q ops = sp_paren T L X (k + j) q ops := (if_neg (by rw [hg]; decide)).trans ((if_neg (by rw [hg]; decide)).trans (if_pos hg))
      have h1 := ht.2.2.2.1 (by rw [hg]; decide)
      have hle := ht.2.2.2.2.2.2.2
      rw [ekj]
      refine cg_next (d := d + E + 21) hp G1 (fun w2 f2 G2 _ => gj_nextV (cs_P_factor_108 (d := d + E + 33) hp.1 ?_))
      rw [nI_1]
      have ej2 : w2.eJ 14 = w1.eJ 14 := by rw [f2.2.2.2.2.1]
      have ei2 : w2.eI 15 = w1.eI 15 := by rw [f2.2.2.2.1]
      refine go_eq (show d + 1 + E + 40 = d + E + 41 by omega) (hX1 (d + 1) w2 _ _ n c ko _ G2 (fun w3 hPO _ => gj_nextV (cs_P_factor_115 (d := d + E + 33) hp.1 hp.2.1 ?_)))
      cases hr : X (k + j + 1) (tk_e T L q) ops with
      | error e =>
        rw [hr] at hPO
        exact cb_take (d := d + E + 32) hp (by decide) hPO.2 (fun w4 f4 B4 _ => gj_nextV (cs_P_factor_122 (d := d + E + 33) hp.1 hp.2.1 (fin w4 _ (po_err (by rw [ep, sp_paren, hr]) ((PF.nf f2).trans (hPO.1.trans f4)) B4))))
      | ok x =>
        obtain ⟨m, p3, o3⟩ := x
        rw [hr] at hPO
        obtain ⟨f3, ho, n3, c3, ko3, G3, R3, g3⟩ := hPO
        have gg := g3.2.2
        have ht3 := tk_le (T := T) G3.2.2.2.2.2.2.2.2.2.2.1
        have ep3 : sp_prim T L X (k + j) q ops = sp_take T L 31 m p3 o3 := by
          rw [ep, sp_paren, hr]
        refine cg_take (d := d + E + 20) hp (by decide) G3 (fun hg3 w4 f4 G4 _ => gj_nextV (cs_P_factor_122 (d := d + E + 33) hp.1 hp.2.1 (fin w4 _ ?_))) (fun hg3 w4 f4 B4 _ => gj_nextV (cs_P_factor_122 (d := d + E + 33) hp.1 hp.2.1 (fin w4 _ (po_err (by rw [ep3]; exact if_neg hg3) ((PF.nf f2).trans (f3.trans f4)) B4))))
        have h3 := ht3.2.2.2.1 (by rw [hg3]; decide)
        have hle3 := ht3.2.2.2.2.2.2.2
        refine po_ok (m := m) (by rw [ep3]; exact if_pos hg3) ((PF.nf f2).trans (f3.trans (PF.nf f4))) ho G4 (by rw [f4.2.2.2.2.1, f4.2.2.2.1]; exact R3) ⟨fun x hx => ?_, fun x hx => ?_, by omega, by omega, by omega, by omega⟩
        · rw [f4.2.2.2.2.1, (g3.1 x hx).1, (g3.1 x hx).2, ej2]
          exact ⟨rfl, rfl⟩
        · rw [f4.2.2.2.1, g3.2.1 x hx, ei2]
  · have es : sp_factor T L X k p ops = .error e := by rw [sp_factor, he]
    obtain ⟨b1, b2, b3, n0, ko0, b4, -, -⟩ := id B1
    refine cs_P_factor_8 (d := d + E + 33) hp.1 hp.2.1 b4.1 b1 (by decide) (fun _ => ?_) (fun h => absurd h (by decide +kernel)) (fun h => absurd h (by decide +kernel)) (fun h => absurd h (by decide +kernel))
    exact rb_constant hp d w1 e _ B1 (fun w2 f2 B2 _ => gj_nextV (cs_P_factor_129 (d := d + E + 33) hp.1 hp.2.1 (tb_fac hp (by omega) B2 (fun w3 f3 B3 => kk w3 (po_err es (f1.trans (f2.trans f3)) B3)))))
end FacG
end Fac2
