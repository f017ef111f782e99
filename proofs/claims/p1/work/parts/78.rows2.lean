/-! ===== conjunction and expression. Printed by wip/tools/gen77.py ===== -/
section Rows2
variable {z : State} {l : Launch} {σ : Hp} {ad : Nat → Nat} {op sg : Nat → Nat} {aO aS mO mS : Nat} {T : Nat → Int32} {L : Nat}
/-- one jump is aimed -/
theorem cg_aim1 {d : Nat} {w : Wd} {Q : Outcome → Hp → Prop} {p ops n c a t : Nat} {ko : Nat → Nat} (hp : PP z σ ad op sg aO aS mO mS L) (hG : GS ad op sg T L w p ops n c ko) (ha : a < n) (hj : w.eJ 14 a = -1) (ht : t ≤ 1000) (k : ∀ w', PF w w' → GS ad op sg T L w' p ops n c ko → w'.eJ 14 = va_up (w.eJ 14) a (lN t) → w'.eI 15 = w.eI 15 → Q (.returned none) (ov σ ad 21 w')) : Go z l mt_G_aim (d + 9) 0 [.ref (ad 12), .int (nI a), .int (nI t), .retAddr 0, .retAddr 0, .retAddr 0] [] (ov σ ad 21 w) Q := by
  have h1000 := gs_1000 hG
  obtain ⟨g1, g2, g3, g4, g5, g6, g7, g8, g9, g10, g11, g12, g13⟩ := hG
  have q1 : ¬ w.I 12 19 ≤ 0 := by rw [g7]; exact nI_nle (by omega) (by omega)
  have q2 : ¬ nI a < 0 := nI_pos (by omega)
  have q3 : ¬ w.I 12 19 ≤ nI a := by rw [g7]; exact nI_ge (by omega) (by omega)
  have fin := k (w.rowJ 14 (va_up (w.eJ 14) a (lN t))) (pf_14 _ _) ⟨g1, g2, g3, g4, g5, g6, g7, g8, g9, g10, g11, g12, g13⟩ rfl rfl
  refine cs_G_aim (d := d) hp.1 (cs_G_aim_5 (d := d) hp.1 g1.1 (fun h => absurd h q1) (fun _ h => absurd h q2) (fun _ _ h => absurd h q3) (fun _ _ _ => vp_in_nI (by omega) (by omega)) (fun _ _ _ => ?_))
  rw [nI_clamp (by omega : a < 2 ^ 31), hj, lN_ofI ht]
  refine go_drop 5 (cs_G_aim_5 (d := d) (w := w.rowJ 14 (va_up (w.eJ 14) a (lN t))) hp.1 g1.1 (fun _ => fin) (fun _ _ => fin) (fun _ h => absurd (by decide) h) (fun _ h => absurd (by decide) h) (fun _ h => absurd (by decide) h))
section Rconjunction
variable {E k : Nat}
theorem tb_conjunction_50 (hp : PP z σ ad op sg aO aS mO mS L) {d i e : Nat} {w : Wd} {v : Int32} {Q : Outcome → Hp → Prop} (hW : BS ad op sg w e) (kk : ∀ w', PF w w' → BS ad op sg w' e → Q (.returned none) (ov σ ad 21 w')) : Go z l mt_P_conjunction (d + E + 47) 50 [.ref (ad 16), .int (nI k), .int (nI i), .int v] [] (ov σ ad 21 w) Q := by
  obtain ⟨-, -, -, n0, ko0, b4, -, -⟩ := id hW
  refine cs_P_conjunction_50 (d := d + E + 38) hp.1 hp.2.1 b4.2.1 (cb_add (d := d + E + 37) hp.1 hp.2.1 (hp.2.2.1 _ (by decide)) (by decide) hW (fun w1 v1 f1 B1 _ => gj_nextI ?_))
  refine cs_P_conjunction_68 (d := d + E + 38) hp.1 (cb_aim (d := d + E + 37) hp.1 B1 (fun w2 f2 B2 _ => gj_nextV ?_))
  obtain ⟨c1, -, -, n, ko, c4, -, -⟩ := id B2
  have fin := kk w2 (f1.trans f2) B2
  exact cs_P_conjunction_71 (d := d + E + 38) hp.1 (go_drop 3 (cs_P_conjunction_7 (d := d + E + 38) hp.1 hp.2.1 c4.1 c1 (fun _ => fin) (fun _ _ => fin) (fun _ h => absurd h (sg_ne hp.2.1 (by decide) (by decide) (by decide)))))
theorem tb_conjunction_31 (hp : PP z σ ad op sg aO aS mO mS L) (hB : RB z l σ ad op sg mt_P_condition [.ref (ad 16), .int (nI k), .retAddr 0] E 46) {d i e : Nat} {w : Wd} {Q : Outcome → Hp → Prop} (hW : BS ad op sg w e) (kk : ∀ w', PF w w' → BS ad op sg w' e → Q (.returned none) (ov σ ad 21 w')) : Go z l mt_P_conjunction (d + E + 47) 31 [.ref (ad 16), .int (nI k), .int (nI i), .retAddr 0] [] (ov σ ad 21 w) Q := by
  obtain ⟨-, -, -, n0, ko0, b4, -, -⟩ := id hW
  refine cs_P_conjunction_31 (d := d + E + 38) hp.1 hp.2.1 b4.2.1 (cb_add (d := d + E + 37) hp.1 hp.2.1 (hp.2.2.1 _ (by decide)) (by decide) hW (fun w1 v1 f1 B1 _ => gj_nextI ?_))
  exact cs_P_conjunction_44 (d := d + E + 38) hp.1 (hB d w1 e _ B1 (fun w2 f2 B2 _ => gj_nextV (tb_conjunction_50 hp B2 (fun w3 f3 B3 => kk w3 (f1.trans (f2.trans f3)) B3))))
theorem bl_conjunction (hp : PP z σ ad op sg aO aS mO mS L) (hB : RB z l σ ad op sg mt_P_condition [.ref (ad 16), .int (nI k), .retAddr 0] E 46) {d e : Nat} {w : Wd} {Q : Outcome → Hp → Prop} (hW : BS ad op sg w e) (kk : ∀ w', PF w w' → BS ad op sg w' e → Q (.returned none) (ov σ ad 21 w')) : Go z l mt_P_conjunction (d + E + 47) 5 [.ref (ad 16), .int (nI k), .retAddr 0, .retAddr 0] [] (ov σ ad 21 w) Q := by
  obtain ⟨c1, -, -, n, ko, c4, -, -⟩ := id hW
  have fin := kk w (PF.refl w) hW
  exact cs_P_conjunction_5 (d := d + E + 38) hp.1 (cs_P_conjunction_7 (d := d + E + 38) hp.1 hp.2.1 c4.1 c1 (fun _ => fin) (fun _ _ => fin) (fun _ h => absurd h (sg_ne hp.2.1 (by decide) (by decide) (by decide))))
theorem rg_conjunction_loop (hp : PP z σ ad op sg aO aS mO mS L) (hB : RB z l σ ad op sg mt_P_condition [.ref (ad 16), .int (nI k), .retAddr 0] E 46) {F : Nat → Nat → Pr} (hF : RG z l σ ad op sg T L mt_P_condition [.ref (ad 16), .int (nI k), .retAddr 0] E 46 F) {d : Nat} {Q : Outcome → Hp → Prop} {w0 : Wd} {p0 ops0 n0 c0 : Nat} {ko0 : Nat → Nat} : ∀ (f i : Nat) (m : Ex) (w : Wd) (p ops n c : Nat) (ko : Nat → Nat), i + f = 301 → i ≤ ops → ops0 ≤ ops → PF w0 w → GS ad op sg T L w p ops n c ko → Rep m n0 n c ko (w.eJ 14) (w.eI 15) → Gr T L w0 w p0 p n0 n c0 c ko0 ko → (∀ w', PO ad op sg T L w0 p0 ops0 n0 n0 c0 ko0 (sp_ops T L F og_and (fun _ => ex_and) f m p ops) w' → Q (.returned none) (ov σ ad 21 w')) → Go z l mt_P_conjunction (d + E + 47) 7 [.ref (ad 16), .int (nI k), .int (nI i), .retAddr 0] [] (ov σ ad 21 w) Q := by
  intro f
  induction f with
  | zero =>
    intro i m w p ops n c ko hi hio ho0 hf hG hR hg kk
    have := hG.2.2.2.2.2.2.2.2.2.2.2.2
    omega
  | succ f ih =>
    intro i m w p ops n c ko hi hio ho0 hf hG hR hg kk
    have i3 : ¬ 300 < nI i := fun q => by
      have := (nI_ltI (a := 300) (by omega) (by omega)).mp q
      omega
    by_cases hgg : tk_g T L p = 1
    · have h0 : ¬ og_and (tk_g T L p) = 0 := by rw [hgg]; decide
      have ht := tk_le (T := T) hG.2.2.2.2.2.2.2.2.2.2.1
      have h1 := ht.2.2.2.2.1 (by omega)
      refine cs_P_conjunction_7 (d := d + E + 38) hp.1 hp.2.1 hG.1.1 hG.2.2.2.1.2.2.2.1 (fun h => absurd h i3) (fun _ h => absurd (by rw [hgg]) h) (fun _ _ => ?_)
      refine cg_oper (d := d + E + 25) hp hG (fun ho w1 f1 r1 r2 G1 _ => gj_nextV ?_) (fun ho w1 f1 B1 _ => gj_nextV (tb_conjunction_31 hp hB B1 (fun w2 f2 B2 => kk w2 (po_err ((if_neg h0).trans (if_pos ho)) (hf.trans (f1.trans f2)) B2))))
      have hle : tk_e T L p ≤ tk_s T L (tk_e T L p) := ht.2.2.2.2.2.2.2
      have gh := hg.2.2
      have nle : n ≤ tk_s T L p := hG.2.2.2.2.2.2.2.2.1
      refine cs_P_conjunction_31 (d := d + E + 38) hp.1 hp.2.1 G1.1.2.1 (cg_addG (d := d + E + 37) hp (by decide) G1 (by omega) (fun w2 f2 G2 r3 r4 _ => gj_nextI ?_))
      refine cs_P_conjunction_44 (d := d + E + 38) hp.1 (hF d w2 _ _ (n + 1) c _ _ G2 (fun w3 hPO _ => gj_nextV ?_))
      have es : sp_ops T L F og_and (fun _ => ex_and) (f + 1) m p ops = match F (tk_e T L p) (ops + 1) with
          | .error e => .error e
          | .ok (m2, p2, o2) => sp_ops T L F og_and (fun _ => ex_and) f (ex_and m m2) p2 o2 := (if_neg h0).trans (if_neg ho)
      cases hr : F (tk_e T L p) (ops + 1) with
      | error e =>
        rw [hr] at hPO es
        exact tb_conjunction_50 hp hPO.2 (fun w4 f4 B4 => kk w4 (po_err es (hf.trans (f1.trans (f2.trans (hPO.1.trans f4)))) B4))
      | ok x =>
        obtain ⟨m2, p2, o2⟩ := x
        rw [hr] at hPO es
        obtain ⟨f3, hoo, n3, c3, ko3, G3, R3, g3⟩ := hPO
        have gg := g3.2.2
        have n1000 := gs_1000 G3
        refine cs_P_conjunction_50 (d := d + E + 38) hp.1 hp.2.1 G3.1.2.1 (cg_addG (d := d + E + 37) hp (by decide) G3 (by omega) (fun w4 f4 G4 r5 r6 _ => gj_nextI ?_))
        have hjn : w4.eJ 14 n = -1 := by rw [r5, hp_up_ne _ _ (by omega), (g3.1 n (by omega)).2, r3, hp_up_same]
        refine cs_P_conjunction_68 (d := d + E + 38) hp.1 (cg_aim1 (d := d + E + 37) hp G4 (by omega) hjn (by omega) (fun w5 f5 G5 r7 r8 _ => gj_nextV ?_))
        refine cs_P_conjunction_71 (d := d + E + 38) hp.1 (go_drop 3 ?_)
        rw [nI_1]
        have kk5 : ∀ j, j < n → va_up ko3 n3 15 j = ko j ∧ w5.eJ 14 j = w.eJ 14 j := fun j hj => by
          rw [r7, hp_up_ne _ _ (by omega), r5, hp_up_ne _ _ (by omega), hp_up_ne _ _ (by omega), (g3.1 j (by omega)).1, (g3.1 j (by omega)).2, r3, hp_up_ne _ _ (by omega), hp_up_ne _ _ (by omega), r1]
          exact ⟨rfl, rfl⟩
        have kc5 : ∀ j, j < c → w5.eI 15 j = w.eI 15 j := fun j hj => by rw [r8, r6, g3.2.1 j hj, r4, r2]
        refine ih (i + 1) _ w5 p2 o2 (n3 + 1) c3 _ (by omega) (by omega) (by omega) (hf.trans (f1.trans (f2.trans (f3.trans (f4.trans f5))))) G5 ?_ ⟨fun j hj => ?_, fun j hj => ?_, by omega, by omega, by omega, by omega⟩ (fun w' hw' => kk w' (by rw [es]; exact hw'))
        · refine rp_and (hR.mono (fun j a1 a2 => kk5 j a2) kc5 (by omega)) (R3.mono (fun j a1 a2 => ⟨hp_up_ne _ _ (by omega), ?_⟩) (fun j _ => by rw [r8, r6]) (Nat.le_refl _)) (by omega) ?_ ?_ (hp_up_same _ _ _) ?_
          · rw [r7, hp_up_ne _ _ (by omega), r5, hp_up_ne _ _ (by omega)]
          · rw [hp_up_ne _ _ (by omega), (g3.1 n (by omega)).1, hp_up_same]
          · rw [r7, hp_up_same]
          · rw [r7, hp_up_ne _ _ (by omega), r5, hp_up_same]
        · exact ⟨(kk5 j (by omega)).1.trans (hg.1 j hj).1, (kk5 j (by omega)).2.trans (hg.1 j hj).2⟩
        · exact (kc5 j (by omega)).trans (hg.2.1 j hj)
    · have h0 : og_and (tk_g T L p) = 0 := if_neg hgg
      have res := kk w (po_ok (show sp_ops T L F og_and (fun _ => ex_and) (f + 1) m p ops = _ from if_pos h0) hf ho0 hG hR hg)
      exact cs_P_conjunction_7 (d := d + E + 38) hp.1 hp.2.1 hG.1.1 hG.2.2.2.1.2.2.2.1 (fun _ => res) (fun _ _ => res) (fun _ h => absurd (sg_inj hp.2.1 hG.g (by decide) h) hgg)
theorem rb_conjunction (hp : PP z σ ad op sg aO aS mO mS L) (hB : RB z l σ ad op sg mt_P_condition [.ref (ad 16), .int (nI k), .retAddr 0] E 46) : RB z l σ ad op sg mt_P_conjunction [.ref (ad 16), .int (nI k), .retAddr 0, .retAddr 0] E 47 := by
  intro d w e Q hW kk
  exact cs_P_conjunction (d := d + E + 38) hp.1 (hB d w e _ hW (fun w1 f1 B1 _ => gj_nextV (bl_conjunction hp hB B1 (fun w2 f2 B2 => kk w2 (f1.trans f2) B2))))
theorem rg_conjunction (hp : PP z σ ad op sg aO aS mO mS L) (hB : RB z l σ ad op sg mt_P_condition [.ref (ad 16), .int (nI k), .retAddr 0] E 46) {F : Nat → Nat → Pr} (hF : RG z l σ ad op sg T L mt_P_condition [.ref (ad 16), .int (nI k), .retAddr 0] E 46 F) : RG z l σ ad op sg T L mt_P_conjunction [.ref (ad 16), .int (nI k), .retAddr 0, .retAddr 0] E 47 (sp_row T L F og_and (fun _ => ex_and)) := by
  intro d w p ops n c ko Q hG kk
  refine cs_P_conjunction (d := d + E + 38) hp.1 (hF d w p ops n c ko _ hG (fun w1 hPO _ => gj_nextV ?_))
  cases hr : F p ops with
  | error e =>
    rw [hr] at hPO
    have es : sp_row T L F og_and (fun _ => ex_and) p ops = .error e := by rw [sp_row, hr]
    exact bl_conjunction hp hB hPO.2 (fun w2 f2 B2 => kk w2 (po_err es (hPO.1.trans f2) B2))
  | ok x =>
    obtain ⟨m, p1, o1⟩ := x
    rw [hr] at hPO
    have es : sp_row T L F og_and (fun _ => ex_and) p ops = sp_ops T L F og_and (fun _ => ex_and) 301 m p1 o1 := by rw [sp_row, hr]
    obtain ⟨f1, ho, n1, c1, ko1, G1, R1, g1⟩ := hPO
    exact cs_P_conjunction_5 (d := d + E + 38) hp.1 (rg_conjunction_loop hp hB hF 301 0 m w1 p1 o1 n1 c1 ko1 rfl (Nat.zero_le _) ho f1 G1 R1 g1 (fun w' hw' => kk w' (by rw [es]; exact hw')))
end Rconjunction
section Rexpression
variable {E k : Nat}
theorem tb_expression_61 (hp : PP z σ ad op sg aO aS mO mS L) {d i e : Nat} {w : Wd} {v : Int32} {Q : Outcome → Hp → Prop} (hW : BS ad op sg w e) (kk : ∀ w', PF w w' → BS ad op sg w' e → Q (.returned none) (ov σ ad 21 w')) : Go z l mt_P_expression (d + E + 48) 61 [.ref (ad 16), .int (nI k), .int (nI i), .int v] [] (ov σ ad 21 w) Q := by
  obtain ⟨-, -, -, n0, ko0, b4, -, -⟩ := id hW
  refine cs_P_expression_61 (d := d + E + 39) hp.1 hp.2.1 b4.2.1 (cb_add (d := d + E + 38) hp.1 hp.2.1 (hp.2.2.1 _ (by decide)) (by decide) hW (fun w1 v1 f1 B1 _ => gj_nextI ?_))
  refine cs_P_expression_79 (d := d + E + 39) hp.1 (cb_aim (d := d + E + 38) hp.1 B1 (fun w2 f2 B2 _ => gj_nextV ?_))
  obtain ⟨c1, -, -, n, ko, c4, -, -⟩ := id B2
  have fin := kk w2 (f1.trans f2) B2
  exact cs_P_expression_82 (d := d + E + 39) hp.1 (go_drop 3 (cs_P_expression_18 (d := d + E + 39) hp.1 hp.2.1 c4.1 c1 (fun _ => fin) (fun _ _ => fin) (fun _ h => absurd h (sg_ne hp.2.1 (by decide) (by decide) (by decide)))))
theorem tb_expression_42 (hp : PP z σ ad op sg aO aS mO mS L) (hB : RB z l σ ad op sg mt_P_conjunction [.ref (ad 16), .int (nI k), .retAddr 0, .retAddr 0] E 47) {d i e : Nat} {w : Wd} {Q : Outcome → Hp → Prop} (hW : BS ad op sg w e) (kk : ∀ w', PF w w' → BS ad op sg w' e → Q (.returned none) (ov σ ad 21 w')) : Go z l mt_P_expression (d + E + 48) 42 [.ref (ad 16), .int (nI k), .int (nI i), .retAddr 0] [] (ov σ ad 21 w) Q := by
  obtain ⟨-, -, -, n0, ko0, b4, -, -⟩ := id hW
  refine cs_P_expression_42 (d := d + E + 39) hp.1 hp.2.1 b4.2.1 (cb_add (d := d + E + 38) hp.1 hp.2.1 (hp.2.2.1 _ (by decide)) (by decide) hW (fun w1 v1 f1 B1 _ => gj_nextI ?_))
  exact cs_P_expression_55 (d := d + E + 39) hp.1 (hB d w1 e _ B1 (fun w2 f2 B2 _ => gj_nextV (tb_expression_61 hp B2 (fun w3 f3 B3 => kk w3 (f1.trans (f2.trans f3)) B3))))
theorem bl_expression (hp : PP z σ ad op sg aO aS mO mS L) (hB : RB z l σ ad op sg mt_P_conjunction [.ref (ad 16), .int (nI k), .retAddr 0, .retAddr 0] E 47) {d e : Nat} {w : Wd} {Q : Outcome → Hp → Prop} (hW : BS ad op sg w e) (kk : ∀ w', PF w w' → BS ad op sg w' e → Q (.returned none) (ov σ ad 21 w')) : Go z l mt_P_expression (d + E + 48) 16 [.ref (ad 16), .int (nI k), .retAddr 0, .retAddr 0] [] (ov σ ad 21 w) Q := by
  obtain ⟨c1, -, -, n, ko, c4, -, -⟩ := id hW
  have fin := kk w (PF.refl w) hW
  exact cs_P_expression_16 (d := d + E + 39) hp.1 (cs_P_expression_18 (d := d + E + 39) hp.1 hp.2.1 c4.1 c1 (fun _ => fin) (fun _ _ => fin) (fun _ h => absurd h (sg_ne hp.2.1 (by decide) (by decide) (by decide))))
theorem rg_expression_loop (hp : PP z σ ad op sg aO aS mO mS L) (hB : RB z l σ ad op sg mt_P_conjunction [.ref (ad 16), .int (nI k), .retAddr 0, .retAddr 0] E 47) {F : Nat → Nat → Pr} (hF : RG z l σ ad op sg T L mt_P_conjunction [.ref (ad 16), .int (nI k), .retAddr 0, .retAddr 0] E 47 F) {d : Nat} {Q : Outcome → Hp → Prop} {w0 : Wd} {p0 ops0 n0 c0 : Nat} {ko0 : Nat → Nat} : ∀ (f i : Nat) (m : Ex) (w : Wd) (p ops n c : Nat) (ko : Nat → Nat), i + f = 301 → i ≤ ops → ops0 ≤ ops → PF w0 w → GS ad op sg T L w p ops n c ko → Rep m n0 n c ko (w.eJ 14) (w.eI 15) → Gr T L w0 w p0 p n0 n c0 c ko0 ko → (∀ w', PO ad op sg T L w0 p0 ops0 n0 n0 c0 ko0 (sp_ops T L F og_or (fun _ => ex_or) f m p ops) w' → Q (.returned none) (ov σ ad 21 w')) → Go z l mt_P_expression (d + E + 48) 18 [.ref (ad 16), .int (nI k), .int (nI i), .retAddr 0] [] (ov σ ad 21 w) Q := by
  intro f
  induction f with
  | zero =>
    intro i m w p ops n c ko hi hio ho0 hf hG hR hg kk
    have := hG.2.2.2.2.2.2.2.2.2.2.2.2
    omega
  | succ f ih =>
    intro i m w p ops n c ko hi hio ho0 hf hG hR hg kk
    have i3 : ¬ 300 < nI i := fun q => by
      have := (nI_ltI (a := 300) (by omega) (by omega)).mp q
      omega
    by_cases hgg : tk_g T L p = 0
    · have h0 : ¬ og_or (tk_g T L p) = 0 := by rw [hgg]; decide
      have ht := tk_le (T := T) hG.2.2.2.2.2.2.2.2.2.2.1
      have h1 := ht.2.2.2.2.1 (by omega)
      refine cs_P_expression_18 (d := d + E + 39) hp.1 hp.2.1 hG.1.1 hG.2.2.2.1.2.2.2.1 (fun h => absurd h i3) (fun _ h => absurd (by rw [hgg]) h) (fun _ _ => ?_)
      refine cg_oper (d := d + E + 26) hp hG (fun ho w1 f1 r1 r2 G1 _ => gj_nextV ?_) (fun ho w1 f1 B1 _ => gj_nextV (tb_expression_42 hp hB B1 (fun w2 f2 B2 => kk w2 (po_err ((if_neg h0).trans (if_pos ho)) (hf.trans (f1.trans f2)) B2))))
      have hle : tk_e T L p ≤ tk_s T L (tk_e T L p) := ht.2.2.2.2.2.2.2
      have gh := hg.2.2
      have nle : n ≤ tk_s T L p := hG.2.2.2.2.2.2.2.2.1
      refine cs_P_expression_42 (d := d + E + 39) hp.1 hp.2.1 G1.1.2.1 (cg_addG (d := d + E + 38) hp (by decide) G1 (by omega) (fun w2 f2 G2 r3 r4 _ => gj_nextI ?_))
      refine cs_P_expression_55 (d := d + E + 39) hp.1 (hF d w2 _ _ (n + 1) c _ _ G2 (fun w3 hPO _ => gj_nextV ?_))
      have es : sp_ops T L F og_or (fun _ => ex_or) (f + 1) m p ops = match F (tk_e T L p) (ops + 1) with
          | .error e => .error e
          | .ok (m2, p2, o2) => sp_ops T L F og_or (fun _ => ex_or) f (ex_or m m2) p2 o2 := (if_neg h0).trans (if_neg ho)
      cases hr : F (tk_e T L p) (ops + 1) with
      | error e =>
        rw [hr] at hPO es
        exact tb_expression_61 hp hPO.2 (fun w4 f4 B4 => kk w4 (po_err es (hf.trans (f1.trans (f2.trans (hPO.1.trans f4)))) B4))
      | ok x =>
        obtain ⟨m2, p2, o2⟩ := x
        rw [hr] at hPO es
        obtain ⟨f3, hoo, n3, c3, ko3, G3, R3, g3⟩ := hPO
        have gg := g3.2.2
        have n1000 := gs_1000 G3
        refine cs_P_expression_61 (d := d + E + 39) hp.1 hp.2.1 G3.1.2.1 (cg_addG (d := d + E + 38) hp (by decide) G3 (by omega) (fun w4 f4 G4 r5 r6 _ => gj_nextI ?_))
        have hjn : w4.eJ 14 n = -1 := by rw [r5, hp_up_ne _ _ (by omega), (g3.1 n (by omega)).2, r3, hp_up_same]
        refine cs_P_expression_79 (d := d + E + 39) hp.1 (cg_aim1 (d := d + E + 38) hp G4 (by omega) hjn (by omega) (fun w5 f5 G5 r7 r8 _ => gj_nextV ?_))
        refine cs_P_expression_82 (d := d + E + 39) hp.1 (go_drop 3 ?_)
        rw [nI_1]
        have kk5 : ∀ j, j < n → va_up ko3 n3 14 j = ko j ∧ w5.eJ 14 j = w.eJ 14 j := fun j hj => by
          rw [r7, hp_up_ne _ _ (by omega), r5, hp_up_ne _ _ (by omega), hp_up_ne _ _ (by omega), (g3.1 j (by omega)).1, (g3.1 j (by omega)).2, r3, hp_up_ne _ _ (by omega), hp_up_ne _ _ (by omega), r1]
          exact ⟨rfl, rfl⟩
        have kc5 : ∀ j, j < c → w5.eI 15 j = w.eI 15 j := fun j hj => by rw [r8, r6, g3.2.1 j hj, r4, r2]
        refine ih (i + 1) _ w5 p2 o2 (n3 + 1) c3 _ (by omega) (by omega) (by omega) (hf.trans (f1.trans (f2.trans (f3.trans (f4.trans f5))))) G5 ?_ ⟨fun j hj => ?_, fun j hj => ?_, by omega, by omega, by omega, by omega⟩ (fun w' hw' => kk w' (by rw [es]; exact hw'))
        · refine rp_or (hR.mono (fun j a1 a2 => kk5 j a2) kc5 (by omega)) (R3.mono (fun j a1 a2 => ⟨hp_up_ne _ _ (by omega), ?_⟩) (fun j _ => by rw [r8, r6]) (Nat.le_refl _)) (by omega) ?_ ?_ (hp_up_same _ _ _) ?_
          · rw [r7, hp_up_ne _ _ (by omega), r5, hp_up_ne _ _ (by omega)]
          · rw [hp_up_ne _ _ (by omega), (g3.1 n (by omega)).1, hp_up_same]
          · rw [r7, hp_up_same]
          · rw [r7, hp_up_ne _ _ (by omega), r5, hp_up_same]
        · exact ⟨(kk5 j (by omega)).1.trans (hg.1 j hj).1, (kk5 j (by omega)).2.trans (hg.1 j hj).2⟩
        · exact (kc5 j (by omega)).trans (hg.2.1 j hj)
    · have h0 : og_or (tk_g T L p) = 0 := if_neg hgg
      have res := kk w (po_ok (show sp_ops T L F og_or (fun _ => ex_or) (f + 1) m p ops = _ from if_pos h0) hf ho0 hG hR hg)
      exact cs_P_expression_18 (d := d + E + 39) hp.1 hp.2.1 hG.1.1 hG.2.2.2.1.2.2.2.1 (fun _ => res) (fun _ _ => res) (fun _ h => absurd (sg_inj hp.2.1 hG.g (by decide) h) hgg)
theorem rb_expression (hp : PP z σ ad op sg aO aS mO mS L) (hB : RB z l σ ad op sg mt_P_conjunction [.ref (ad 16), .int (nI k), .retAddr 0, .retAddr 0] E 47) (hk : k ≤ 100) : RB z l σ ad op sg mt_P_expression [.ref (ad 16), .int (nI k), .retAddr 0, .retAddr 0] E 48 := by
  intro d w e Q hW kk
  obtain ⟨c1, c2, c3, n, ko, c4, -, -⟩ := id hW
  exact cs_P_expression (d := d + E + 39) hp.1 hp.2.1 c4.1 (fun _ => hB d w e _ hW (fun w1 f1 B1 _ => gj_nextV (bl_expression hp hB B1 (fun w2 f2 B2 => kk w2 (f1.trans f2) B2)))) (fun _ _ => kk _ (pf_stop _) (bs_stop hW)) (fun _ h => absurd h (by rw [c2]; exact n1_ne c3))
theorem rg_expression (hp : PP z σ ad op sg aO aS mO mS L) (hB : RB z l σ ad op sg mt_P_conjunction [.ref (ad 16), .int (nI k), .retAddr 0, .retAddr 0] E 47) (hk : k ≤ 100) {F : Nat → Nat → Pr} (hF : k ≤ 30 → RG z l σ ad op sg T L mt_P_conjunction [.ref (ad 16), .int (nI k), .retAddr 0, .retAddr 0] E 47 F) : RG z l σ ad op sg T L mt_P_expression [.ref (ad 16), .int (nI k), .retAddr 0, .retAddr 0] E 48 (fun p ops => if 30 < k then .error (tk_s T L p) else sp_row T L F og_or (fun _ => ex_or) p ops) := by
  intro d w p ops n c ko Q hG kk
  have h30 : nI k ≤ 30 ↔ k ≤ 30 := nI_leI (b := 30) (by omega) (by omega)
  refine cs_P_expression (d := d + E + 39) hp.1 hp.2.1 hG.1.1 (fun h => ?_) (fun _ h => absurd hG.2.2.2.2.1 h) (fun h _ => kk _ (po_err (if_pos (Nat.lt_of_not_le (fun q => h (h30.mpr q)))) (pf_at _ _) (gs_break hG)))
  have hk3 := h30.mp h
  have h3 : ¬ 30 < k := by omega
  have hF := hF hk3
  have kk := fun w' (hw' : PO ad op sg T L w p ops n n c ko (sp_row T L F og_or (fun _ => ex_or) p ops) w') => kk w' (by
    show PO ad op sg T L w p ops n n c ko (if 30 < k then .error (tk_s T L p) else sp_row T L F og_or (fun _ => ex_or) p ops) w'
    rw [if_neg h3]
    exact hw')
  refine hF d w p ops n c ko _ hG (fun w1 hPO _ => gj_nextV ?_)
  cases hr : F p ops with
  | error e =>
    rw [hr] at hPO
    have es : sp_row T L F og_or (fun _ => ex_or) p ops = .error e := by rw [sp_row, hr]
    exact bl_expression hp hB hPO.2 (fun w2 f2 B2 => kk w2 (po_err es (hPO.1.trans f2) B2))
  | ok x =>
    obtain ⟨m, p1, o1⟩ := x
    rw [hr] at hPO
    have es : sp_row T L F og_or (fun _ => ex_or) p ops = sp_ops T L F og_or (fun _ => ex_or) 301 m p1 o1 := by rw [sp_row, hr]
    obtain ⟨f1, ho, n1, c1, ko1, G1, R1, g1⟩ := hPO
    exact cs_P_expression_16 (d := d + E + 39) hp.1 (rg_expression_loop hp hB hF 301 0 m w1 p1 o1 n1 c1 ko1 rfl (Nat.zero_le _) ho f1 G1 R1 g1 (fun w' hw' => kk w' (by rw [es]; exact hw')))
end Rexpression
end Rows2
