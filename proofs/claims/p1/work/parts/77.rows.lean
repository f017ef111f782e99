/-! ===== rules of the parser: what a method does to a text, broken (RB) or not (RG). Printed by wip/tools/gen77.py ===== -/
def RB (z : State) (l : Launch) (σ : Hp) (ad op sg : Nat → Nat) (M : Mt) (A : List Value) (E D : Nat) : Prop := ∀ (d : Nat) (w : Wd) (e : Nat) (Q : Outcome → Hp → Prop), BS ad op sg w e → (∀ w', PF w w' → BS ad op sg w' e → Q (.returned none) (ov σ ad 21 w')) → Go z l M (d + E + D) 0 A [] (ov σ ad 21 w) Q
/-- what has come out: the text is broken, or the program has grown by what stands for m from n0 on -/
def PO (ad op sg : Nat → Nat) (T : Nat → Int32) (L : Nat) (w : Wd) (p ops n0 n c : Nat) (ko : Nat → Nat) (r : Pr) (w' : Wd) : Prop := PF w w' ∧ match r with
  | .error e => BS ad op sg w' e
  | .ok (m, p', o') => ops ≤ o' ∧ ∃ n' c' ko', GS ad op sg T L w' p' o' n' c' ko' ∧ Rep m n0 n' c' ko' (w'.eJ 14) (w'.eI 15) ∧ Gr T L w w' p p' n n' c c' ko ko'
def RG (z : State) (l : Launch) (σ : Hp) (ad op sg : Nat → Nat) (T : Nat → Int32) (L : Nat) (M : Mt) (A : List Value) (E D : Nat) (F : Nat → Nat → Pr) : Prop := ∀ (d : Nat) (w : Wd) (p ops n c : Nat) (ko : Nat → Nat) (Q : Outcome → Hp → Prop), GS ad op sg T L w p ops n c ko → (∀ w', PO ad op sg T L w p ops n n c ko (F p ops) w' → Q (.returned none) (ov σ ad 21 w')) → Go z l M (d + E + D) 0 A [] (ov σ ad 21 w) Q
theorem po_err {ad op sg : Nat → Nat} {T : Nat → Int32} {L : Nat} {w w' : Wd} {p ops n0 n c : Nat} {ko : Nat → Nat} {r : Pr} {e : Nat} (hr : r = .error e) (hf : PF w w') (hB : BS ad op sg w' e) : PO ad op sg T L w p ops n0 n c ko r w' := by
  subst hr
  exact ⟨hf, hB⟩
theorem po_ok {ad op sg : Nat → Nat} {T : Nat → Int32} {L : Nat} {w w' : Wd} {p ops n0 n c : Nat} {ko : Nat → Nat} {r : Pr} {m : Ex} {p' o' n' c' : Nat} {ko' : Nat → Nat} (hr : r = .ok (m, p', o')) (hf : PF w w') (ho : ops ≤ o') (hG : GS ad op sg T L w' p' o' n' c' ko') (hR : Rep m n0 n' c' ko' (w'.eJ 14) (w'.eI 15)) (hg : Gr T L w w' p p' n n' c c' ko ko') : PO ad op sg T L w p ops n0 n c ko r w' := by
  subst hr
  exact ⟨hf, ho, n', c', ko', hG, hR, hg⟩
section Rows
variable {z : State} {l : Launch} {σ : Hp} {ad : Nat → Nat} {op sg : Nat → Nat} {aO aS mO mS : Nat} {T : Nat → Int32} {L : Nat}
theorem of_product {d g : Nat} {w : Wd} {Q : Outcome → Hp → Prop} (hp : PP z σ ad op sg aO aS mO mS L) (hg : g < 35) (k : Q (.returned (some (.ref (op (og_prod g))))) (ov σ ad 21 w)) : Go z l mt_P_productOf (d + 9) 0 [.ref (sg g)] [] (ov σ ad 21 w) Q := by
  have key : ∀ o, og_prod g = o → Q (.returned (some (.ref (op o)))) (ov σ ad 21 w) := fun o h => by rw [← h]; exact k
  exact cs_P_productOf (d := d) hp.1 hp.2.1 hg (fun h => key _ ((by decide +kernel : ∀ g, g < 35 → ((sg_map.getD g 0).toInt < 18 ∨ 20 < (sg_map.getD g 0).toInt) → og_prod g = 0) g hg h)) (fun h => key _ ((by decide +kernel : ∀ g, g < 35 → sg_map.getD g 0 = 18 → og_prod g = 30) g hg h)) (fun h => key _ ((by decide +kernel : ∀ g, g < 35 → sg_map.getD g 0 = 19 → og_prod g = 31) g hg h)) (fun h => key _ ((by decide +kernel : ∀ g, g < 35 → sg_map.getD g 0 = 20 → og_prod g = 32) g hg h))
theorem og_prod_ok : ∀ g, g < 35 → ¬ og_prod g = 0 → g ≠ 33 ∧ 20 ≤ og_prod g ∧ og_prod g ≤ 32 := by decide +kernel
section Rproduct
variable {E k : Nat}
/-- broken: behind the operator's second part -/
theorem tb_product_41 (hp : PP z σ ad op sg aO aS mO mS L) (hB : RB z l σ ad op sg mt_P_factor [.ref (ad 16), .int (nI k), .retAddr 0, .retAddr 0, .retAddr 0] E 42) {d o i e : Nat} {w : Wd} {Q : Outcome → Hp → Prop} (ho : o < 43) (hW : BS ad op sg w e) (kk : ∀ w', PF w w' → BS ad op sg w' e → Q (.returned none) (ov σ ad 21 w')) : Go z l mt_P_product (d + E + 43) 41 [.ref (ad 16), .int (nI k), .ref (op o), .int (nI i)] [] (ov σ ad 21 w) Q := by
  obtain ⟨-, -, -, n0, ko0, b4, -, -⟩ := id hW
  refine cs_P_product_41 (d := d + E + 34) hp.1 hp.2.1 b4.2.1 (cb_add (d := d + E + 33) hp.1 hp.2.1 (hp.2.2.1 o ho) ho hW (fun w1 v f1 B1 _ => gj_nextI ?_))
  obtain ⟨c1, -, -, n, ko, c4, -, -⟩ := id B1
  refine cs_P_product_52 (d := d + E + 34) hp.1 hp.2.1 c4.1 c1 (of_product (d := d + E + 33) hp (by decide) (fun _ => gj_nextI ?_))
  exact cs_P_product_63 (d := d + E + 34) (s0 := 0) hp.1 hp.2.1 (cs_P_product_18 (d := d + E + 34) hp.1 hp.2.1 (fun _ => kk w1 f1 B1) (fun _ _ => kk w1 f1 B1) (fun _ h => absurd rfl h))
theorem tb_product_36 (hp : PP z σ ad op sg aO aS mO mS L) (hB : RB z l σ ad op sg mt_P_factor [.ref (ad 16), .int (nI k), .retAddr 0, .retAddr 0, .retAddr 0] E 42) {d o i e : Nat} {w : Wd} {Q : Outcome → Hp → Prop} (ho : o < 43) (hW : BS ad op sg w e) (kk : ∀ w', PF w w' → BS ad op sg w' e → Q (.returned none) (ov σ ad 21 w')) : Go z l mt_P_product (d + E + 43) 36 [.ref (ad 16), .int (nI k), .ref (op o), .int (nI i)] [] (ov σ ad 21 w) Q :=
  cs_P_product_36 (d := d + E + 34) hp.1 hp.2.1 (hB d w e _ hW (fun w1 f1 B1 _ => gj_nextV (tb_product_41 hp hB ho B1 (fun w2 f2 B2 => kk w2 (f1.trans f2) B2))))
theorem rb_product (hp : PP z σ ad op sg aO aS mO mS L) (hB : RB z l σ ad op sg mt_P_factor [.ref (ad 16), .int (nI k), .retAddr 0, .retAddr 0, .retAddr 0] E 42) : RB z l σ ad op sg mt_P_product [.ref (ad 16), .int (nI k), .retAddr 0, .retAddr 0] E 43 := by
  intro d w e Q hW kk
  refine cs_P_product (d := d + E + 34) hp.1 (hB d w e _ hW (fun w1 f1 B1 _ => gj_nextV ?_))
  obtain ⟨c1, -, -, n, ko, c4, -, -⟩ := id B1
  refine cs_P_product_5 (d := d + E + 34) hp.1 hp.2.1 c4.1 c1 (of_product (d := d + E + 33) hp (by decide) (fun _ => gj_nextI ?_))
  exact cs_P_product_15 (d := d + E + 34) (s0 := 0) hp.1 hp.2.1 (cs_P_product_18 (d := d + E + 34) hp.1 hp.2.1 (fun _ => kk w1 f1 B1) (fun _ _ => kk w1 f1 B1) (fun _ h => absurd rfl h))
theorem rg_product_loop (hp : PP z σ ad op sg aO aS mO mS L) (hB : RB z l σ ad op sg mt_P_factor [.ref (ad 16), .int (nI k), .retAddr 0, .retAddr 0, .retAddr 0] E 42) {F : Nat → Nat → Pr} (hF : RG z l σ ad op sg T L mt_P_factor [.ref (ad 16), .int (nI k), .retAddr 0, .retAddr 0, .retAddr 0] E 42 F) {d : Nat} {Q : Outcome → Hp → Prop} {w0 : Wd} {p0 ops0 n0 c0 : Nat} {ko0 : Nat → Nat} : ∀ (f i : Nat) (m : Ex) (w : Wd) (p ops n c : Nat) (ko : Nat → Nat), i + f = 301 → i ≤ ops → ops0 ≤ ops → PF w0 w → GS ad op sg T L w p ops n c ko → Rep m n0 n c ko (w.eJ 14) (w.eI 15) → Gr T L w0 w p0 p n0 n c0 c ko0 ko → (∀ w', PO ad op sg T L w0 p0 ops0 n0 n0 c0 ko0 (sp_ops T L F og_prod ex_2 f m p ops) w' → Q (.returned none) (ov σ ad 21 w')) → Go z l mt_P_product (d + E + 43) 18 [.ref (ad 16), .int (nI k), .ref (op (og_prod (tk_g T L p))), .int (nI i)] [] (ov σ ad 21 w) Q := by
  intro f
  induction f with
  | zero =>
    intro i m w p ops n c ko hi hio ho0 hf hG hR hg kk
    have := hG.2.2.2.2.2.2.2.2.2.2.2.2
    omega
  | succ f ih =>
    intro i m w p ops n c ko hi hio ho0 hf hG hR hg kk
    have i3 : ¬ 300 < nI i := fun q => by
      have := (nI_ltI (a := 300) (by omega) (by omega)).mp q
      omega
    by_cases h0 : og_prod (tk_g T L p) = 0
    · have res := kk w (po_ok (show sp_ops T L F og_prod ex_2 (f + 1) m p ops = _ from if_pos h0) hf ho0 hG hR hg)
      exact cs_P_product_18 (d := d + E + 34) hp.1 hp.2.1 (fun _ => res) (fun _ _ => res) (fun _ h => absurd (by rw [h0]) h)
    · obtain ⟨h33, h20, h32⟩ := og_prod_ok _ hG.g h0
      have ht := tk_le (T := T) hG.2.2.2.2.2.2.2.2.2.2.1
      have h1 := ht.2.2.2.1 h33
      refine cs_P_product_18 (d := d + E + 34) hp.1 hp.2.1 (fun h => absurd h i3) (fun _ h => absurd (op_inj hp.2.1 (by omega) (by decide) h) h0) (fun _ _ => ?_)
      refine cg_oper (d := d + E + 21) hp hG (fun ho w1 f1 r1 r2 G1 _ => gj_nextV ?_) (fun ho w1 f1 B1 _ => gj_nextV (tb_product_36 hp hB (by omega) B1 (fun w2 f2 B2 => kk w2 (po_err ((if_neg h0).trans (if_pos ho)) (hf.trans (f1.trans f2)) B2))))
      refine cs_P_product_36 (d := d + E + 34) hp.1 hp.2.1 (hF d w1 _ _ n c ko _ G1 (fun w2 hPO _ => gj_nextV ?_))
      have es : sp_ops T L F og_prod ex_2 (f + 1) m p ops = match F (tk_e T L p) (ops + 1) with
          | .error e => .error e
          | .ok (m2, p2, o2) => sp_ops T L F og_prod ex_2 f (ex_2 (og_prod (tk_g T L p)) m m2) p2 o2 := (if_neg h0).trans (if_neg ho)
      cases hr : F (tk_e T L p) (ops + 1) with
      | error e =>
        rw [hr] at hPO es
        exact tb_product_41 hp hB (by omega) hPO.2 (fun w3 f3 B3 => kk w3 (po_err es (hf.trans (f1.trans (hPO.1.trans f3))) B3))
      | ok x =>
        obtain ⟨m2, p2, o2⟩ := x
        rw [hr] at hPO es
        obtain ⟨f2, hoo, n2, c2, ko2, G2, R2, g2⟩ := hPO
        have hle : tk_e T L p ≤ tk_s T L (tk_e T L p) := ht.2.2.2.2.2.2.2
        have gg := g2.2.2
        have gh := hg.2.2
        have nle : n ≤ tk_s T L p := hG.2.2.2.2.2.2.2.2.1
        refine cs_P_product_41 (d := d + E + 34) hp.1 hp.2.1 G2.1.2.1 (cg_addG (d := d + E + 33) hp (by omega) G2 (by omega) (fun w3 f3 G3 r3 r4 _ => gj_nextI ?_))
        refine cs_P_product_52 (d := d + E + 34) hp.1 hp.2.1 G3.1.1 G3.2.2.2.1.2.2.2.1 (of_product (d := d + E + 33) hp G3.g (fun _ => gj_nextI ?_))
        refine cs_P_product_63 (d := d + E + 34) hp.1 hp.2.1 ?_
        rw [nI_1]
        refine ih (i + 1) _ w3 p2 o2 (n2 + 1) c2 _ (by omega) (by omega) (by omega) (hf.trans (f1.trans (f2.trans f3))) G3 ?_ ⟨fun j hj => ?_, fun j hj => ?_, by omega, by omega, by omega, by omega⟩ (fun w' hw' => kk w' (by rw [es]; exact hw'))
        · refine rp_2 (o := og_prod (tk_g T L p)) ⟨h20, h32⟩ (hR.mono (fun j a1 a2 => ⟨(hp_up_ne _ _ (by omega)).trans (g2.1 j a2).1, ?_⟩) (fun j hj => ?_) (by omega)) (R2.mono (fun j a1 a2 => ⟨hp_up_ne _ _ (by omega), by rw [r3]; exact hp_up_ne _ _ (by omega)⟩) (fun j _ => by rw [r4]) (Nat.le_refl _)) (hp_up_same _ _ _) (by rw [r3]; exact hp_up_same _ _ _)
          · rw [r3, hp_up_ne _ _ (by omega), (g2.1 j a2).2, r1]
          · rw [r4, g2.2.1 j hj, r2]
        · rw [r3, hp_up_ne _ _ (by omega), hp_up_ne _ _ (by omega), (g2.1 j (by omega)).1, (g2.1 j (by omega)).2, r1]
          exact hg.1 j hj
        · rw [r4, g2.2.1 j (by omega), r2]
          exact hg.2.1 j hj
theorem rg_product (hp : PP z σ ad op sg aO aS mO mS L) (hB : RB z l σ ad op sg mt_P_factor [.ref (ad 16), .int (nI k), .retAddr 0, .retAddr 0, .retAddr 0] E 42) {F : Nat → Nat → Pr} (hF : RG z l σ ad op sg T L mt_P_factor [.ref (ad 16), .int (nI k), .retAddr 0, .retAddr 0, .retAddr 0] E 42 F) : RG z l σ ad op sg T L mt_P_product [.ref (ad 16), .int (nI k), .retAddr 0, .retAddr 0] E 43 (sp_row T L F og_prod ex_2) := by
  intro d w p ops n c ko Q hG kk
  refine cs_P_product (d := d + E + 34) hp.1 (hF d w p ops n c ko _ hG (fun w1 hPO _ => gj_nextV ?_))
  cases hr : F p ops with
  | error e =>
    rw [hr] at hPO
    have es : sp_row T L F og_prod ex_2 p ops = .error e := by rw [sp_row, hr]
    obtain ⟨f1, B1⟩ := hPO
    obtain ⟨c1, -, -, n, ko, c4, -, -⟩ := id B1
    refine cs_P_product_5 (d := d + E + 34) hp.1 hp.2.1 c4.1 c1 (of_product (d := d + E + 33) hp (by decide) (fun _ => gj_nextI ?_))
    exact cs_P_product_15 (d := d + E + 34) (s0 := 0) hp.1 hp.2.1 (cs_P_product_18 (d := d + E + 34) hp.1 hp.2.1 (fun _ => kk w1 (po_err es f1 B1)) (fun _ _ => kk w1 (po_err es f1 B1)) (fun _ h => absurd rfl h))
  | ok x =>
    obtain ⟨m, p1, o1⟩ := x
    rw [hr] at hPO
    have es : sp_row T L F og_prod ex_2 p ops = sp_ops T L F og_prod ex_2 301 m p1 o1 := by rw [sp_row, hr]
    obtain ⟨f1, ho, n1, c1, ko1, G1, R1, g1⟩ := hPO
    refine cs_P_product_5 (d := d + E + 34) hp.1 hp.2.1 G1.1.1 G1.2.2.2.1.2.2.2.1 (of_product (d := d + E + 33) hp G1.g (fun _ => gj_nextI ?_))
    exact cs_P_product_15 (d := d + E + 34) hp.1 hp.2.1 (rg_product_loop hp hB hF 301 0 m w1 p1 o1 n1 c1 ko1 rfl (Nat.zero_le _) ho f1 G1 R1 g1 (fun w' hw' => kk w' (by rw [es]; exact hw')))
end Rproduct
theorem of_sum {d g : Nat} {w : Wd} {Q : Outcome → Hp → Prop} (hp : PP z σ ad op sg aO aS mO mS L) (hg : g < 35) (k : Q (.returned (some (.ref (op (og_sum g))))) (ov σ ad 21 w)) : Go z l mt_P_sumOf (d + 9) 0 [.ref (sg g)] [] (ov σ ad 21 w) Q := by
  have key : ∀ o, og_sum g = o → Q (.returned (some (.ref (op o)))) (ov σ ad 21 w) := fun o h => by rw [← h]; exact k
  exact cs_P_sumOf (d := d) hp.1 hp.2.1 hg (fun h => key _ ((by decide +kernel : ∀ g, g < 35 → ((sg_map.getD g 0).toInt < 15 ∨ 17 < (sg_map.getD g 0).toInt) → og_sum g = 0) g hg h)) (fun h => key _ ((by decide +kernel : ∀ g, g < 35 → sg_map.getD g 0 = 15 → og_sum g = 28) g hg h)) (fun h => key _ ((by decide +kernel : ∀ g, g < 35 → sg_map.getD g 0 = 16 → og_sum g = 29) g hg h)) (fun h => key _ ((by decide +kernel : ∀ g, g < 35 → sg_map.getD g 0 = 17 → og_sum g = 27) g hg h))
theorem og_sum_ok : ∀ g, g < 35 → ¬ og_sum g = 0 → g ≠ 33 ∧ 20 ≤ og_sum g ∧ og_sum g ≤ 32 := by decide +kernel
section Rsum
variable {E k : Nat}
/-- broken: behind the operator's second part -/
theorem tb_sum_41 (hp : PP z σ ad op sg aO aS mO mS L) (hB : RB z l σ ad op sg mt_P_product [.ref (ad 16), .int (nI k), .retAddr 0, .retAddr 0] E 43) {d o i e : Nat} {w : Wd} {Q : Outcome → Hp → Prop} (ho : o < 43) (hW : BS ad op sg w e) (kk : ∀ w', PF w w' → BS ad op sg w' e → Q (.returned none) (ov σ ad 21 w')) : Go z l mt_P_sum (d + E + 44) 41 [.ref (ad 16), .int (nI k), .ref (op o), .int (nI i)] [] (ov σ ad 21 w) Q := by
  obtain ⟨-, -, -, n0, ko0, b4, -, -⟩ := id hW
  refine cs_P_sum_41 (d := d + E + 35) hp.1 hp.2.1 b4.2.1 (cb_add (d := d + E + 34) hp.1 hp.2.1 (hp.2.2.1 o ho) ho hW (fun w1 v f1 B1 _ => gj_nextI ?_))
  obtain ⟨c1, -, -, n, ko, c4, -, -⟩ := id B1
  refine cs_P_sum_52 (d := d + E + 35) hp.1 hp.2.1 c4.1 c1 (of_sum (d := d + E + 34) hp (by decide) (fun _ => gj_nextI ?_))
  exact cs_P_sum_63 (d := d + E + 35) (s0 := 0) hp.1 hp.2.1 (cs_P_sum_18 (d := d + E + 35) hp.1 hp.2.1 (fun _ => kk w1 f1 B1) (fun _ _ => kk w1 f1 B1) (fun _ h => absurd rfl h))
theorem tb_sum_36 (hp : PP z σ ad op sg aO aS mO mS L) (hB : RB z l σ ad op sg mt_P_product [.ref (ad 16), .int (nI k), .retAddr 0, .retAddr 0] E 43) {d o i e : Nat} {w : Wd} {Q : Outcome → Hp → Prop} (ho : o < 43) (hW : BS ad op sg w e) (kk : ∀ w', PF w w' → BS ad op sg w' e → Q (.returned none) (ov σ ad 21 w')) : Go z l mt_P_sum (d + E + 44) 36 [.ref (ad 16), .int (nI k), .ref (op o), .int (nI i)] [] (ov σ ad 21 w) Q :=
  cs_P_sum_36 (d := d + E + 35) hp.1 hp.2.1 (hB d w e _ hW (fun w1 f1 B1 _ => gj_nextV (tb_sum_41 hp hB ho B1 (fun w2 f2 B2 => kk w2 (f1.trans f2) B2))))
theorem rb_sum (hp : PP z σ ad op sg aO aS mO mS L) (hB : RB z l σ ad op sg mt_P_product [.ref (ad 16), .int (nI k), .retAddr 0, .retAddr 0] E 43) : RB z l σ ad op sg mt_P_sum [.ref (ad 16), .int (nI k), .retAddr 0, .retAddr 0] E 44 := by
  intro d w e Q hW kk
  refine cs_P_sum (d := d + E + 35) hp.1 (hB d w e _ hW (fun w1 f1 B1 _ => gj_nextV ?_))
  obtain ⟨c1, -, -, n, ko, c4, -, -⟩ := id B1
  refine cs_P_sum_5 (d := d + E + 35) hp.1 hp.2.1 c4.1 c1 (of_sum (d := d + E + 34) hp (by decide) (fun _ => gj_nextI ?_))
  exact cs_P_sum_15 (d := d + E + 35) (s0 := 0) hp.1 hp.2.1 (cs_P_sum_18 (d := d + E + 35) hp.1 hp.2.1 (fun _ => kk w1 f1 B1) (fun _ _ => kk w1 f1 B1) (fun _ h => absurd rfl h))
theorem rg_sum_loop (hp : PP z σ ad op sg aO aS mO mS L) (hB : RB z l σ ad op sg mt_P_product [.ref (ad 16), .int (nI k), .retAddr 0, .retAddr 0] E 43) {F : Nat → Nat → Pr} (hF : RG z l σ ad op sg T L mt_P_product [.ref (ad 16), .int (nI k), .retAddr 0, .retAddr 0] E 43 F) {d : Nat} {Q : Outcome → Hp → Prop} {w0 : Wd} {p0 ops0 n0 c0 : Nat} {ko0 : Nat → Nat} : ∀ (f i : Nat) (m : Ex) (w : Wd) (p ops n c : Nat) (ko : Nat → Nat), i + f = 301 → i ≤ ops → ops0 ≤ ops → PF w0 w → GS ad op sg T L w p ops n c ko → Rep m n0 n c ko (w.eJ 14) (w.eI 15) → Gr T L w0 w p0 p n0 n c0 c ko0 ko → (∀ w', PO ad op sg T L w0 p0 ops0 n0 n0 c0 ko0 (sp_ops T L F og_sum ex_2 f m p ops) w' → Q (.returned none) (ov σ ad 21 w')) → Go z l mt_P_sum (d + E + 44) 18 [.ref (ad 16), .int (nI k), .ref (op (og_sum (tk_g T L p))), .int (nI i)] [] (ov σ ad 21 w) Q := by
  intro f
  induction f with
  | zero =>
    intro i m w p ops n c ko hi hio ho0 hf hG hR hg kk
    have := hG.2.2.2.2.2.2.2.2.2.2.2.2
    omega
  | succ f ih =>
    intro i m w p ops n c ko hi hio ho0 hf hG hR hg kk
    have i3 : ¬ 300 < nI i := fun q => by
      have := (nI_ltI (a := 300) (by omega) (by omega)).mp q
      omega
    by_cases h0 : og_sum (tk_g T L p) = 0
    · have res := kk w (po_ok (show sp_ops T L F og_sum ex_2 (f + 1) m p ops = _ from if_pos h0) hf ho0 hG hR hg)
      exact cs_P_sum_18 (d := d + E + 35) hp.1 hp.2.1 (fun _ => res) (fun _ _ => res) (fun _ h => absurd (by rw [h0]) h)
    · obtain ⟨h33, h20, h32⟩ := og_sum_ok _ hG.g h0
      have ht := tk_le (T := T) hG.2.2.2.2.2.2.2.2.2.2.1
      have h1 := ht.2.2.2.1 h33
      refine cs_P_sum_18 (d := d + E + 35) hp.1 hp.2.1 (fun h => absurd h i3) (fun _ h => absurd (op_inj hp.2.1 (by omega) (by decide) h) h0) (fun _ _ => ?_)
      refine cg_oper (d := d + E + 22) hp hG (fun ho w1 f1 r1 r2 G1 _ => gj_nextV ?_) (fun ho w1 f1 B1 _ => gj_nextV (tb_sum_36 hp hB (by omega) B1 (fun w2 f2 B2 => kk w2 (po_err ((if_neg h0).trans (if_pos ho)) (hf.trans (f1.trans f2)) B2))))
      refine cs_P_sum_36 (d := d + E + 35) hp.1 hp.2.1 (hF d w1 _ _ n c ko _ G1 (fun w2 hPO _ => gj_nextV ?_))
      have es : sp_ops T L F og_sum ex_2 (f + 1) m p ops = match F (tk_e T L p) (ops + 1) with
          | .error e => .error e
          | .ok (m2, p2, o2) => sp_ops T L F og_sum ex_2 f (ex_2 (og_sum (tk_g T L p)) m m2) p2 o2 := (if_neg h0).trans (if_neg ho)
      cases hr : F (tk_e T L p) (ops + 1) with
      | error e =>
        rw [hr] at hPO es
        exact tb_sum_41 hp hB (by omega) hPO.2 (fun w3 f3 B3 => kk w3 (po_err es (hf.trans (f1.trans (hPO.1.trans f3))) B3))
      | ok x =>
        obtain ⟨m2, p2, o2⟩ := x
        rw [hr] at hPO es
        obtain ⟨f2, hoo, n2, c2, ko2, G2, R2, g2⟩ := hPO
        have hle : tk_e T L p ≤ tk_s T L (tk_e T L p) := ht.2.2.2.2.2.2.2
        have gg := g2.2.2
        have gh := hg.2.2
        have nle : n ≤ tk_s T L p := hG.2.2.2.2.2.2.2.2.1
        refine cs_P_sum_41 (d := d + E + 35) hp.1 hp.2.1 G2.1.2.1 (cg_addG (d := d + E + 34) hp (by omega) G2 (by omega) (fun w3 f3 G3 r3 r4 _ => gj_nextI ?_))
        refine cs_P_sum_52 (d := d + E + 35) hp.1 hp.2.1 G3.1.1 G3.2.2.2.1.2.2.2.1 (of_sum (d := d + E + 34) hp G3.g (fun _ => gj_nextI ?_))
        refine cs_P_sum_63 (d := d + E + 35) hp.1 hp.2.1 ?_
        rw [nI_1]
        refine ih (i + 1) _ w3 p2 o2 (n2 + 1) c2 _ (by omega) (by omega) (by omega) (hf.trans (f1.trans (f2.trans f3))) G3 ?_ ⟨fun j hj => ?_, fun j hj => ?_, by omega, by omega, by omega, by omega⟩ (fun w' hw' => kk w' (by rw [es]; exact hw'))
        · refine rp_2 (o := og_sum (tk_g T L p)) ⟨h20, h32⟩ (hR.mono (fun j a1 a2 => ⟨(hp_up_ne _ _ (by omega)).trans (g2.1 j a2).1, ?_⟩) (fun j hj => ?_) (by omega)) (R2.mono (fun j a1 a2 => ⟨hp_up_ne _ _ (by omega), by rw [r3]; exact hp_up_ne _ _ (by omega)⟩) (fun j _ => by rw [r4]) (Nat.le_refl _)) (hp_up_same _ _ _) (by rw [r3]; exact hp_up_same _ _ _)
          · rw [r3, hp_up_ne _ _ (by omega), (g2.1 j a2).2, r1]
          · rw [r4, g2.2.1 j hj, r2]
        · rw [r3, hp_up_ne _ _ (by omega), hp_up_ne _ _ (by omega), (g2.1 j (by omega)).1, (g2.1 j (by omega)).2, r1]
          exact hg.1 j hj
        · rw [r4, g2.2.1 j (by omega), r2]
          exact hg.2.1 j hj
theorem rg_sum (hp : PP z σ ad op sg aO aS mO mS L) (hB : RB z l σ ad op sg mt_P_product [.ref (ad 16), .int (nI k), .retAddr 0, .retAddr 0] E 43) {F : Nat → Nat → Pr} (hF : RG z l σ ad op sg T L mt_P_product [.ref (ad 16), .int (nI k), .retAddr 0, .retAddr 0] E 43 F) : RG z l σ ad op sg T L mt_P_sum [.ref (ad 16), .int (nI k), .retAddr 0, .retAddr 0] E 44 (sp_row T L F og_sum ex_2) := by
  intro d w p ops n c ko Q hG kk
  refine cs_P_sum (d := d + E + 35) hp.1 (hF d w p ops n c ko _ hG (fun w1 hPO _ => gj_nextV ?_))
  cases hr : F p ops with
  | error e =>
    rw [hr] at hPO
    have es : sp_row T L F og_sum ex_2 p ops = .error e := by rw [sp_row, hr]
    obtain ⟨f1, B1⟩ := hPO
    obtain ⟨c1, -, -, n, ko, c4, -, -⟩ := id B1
    refine cs_P_sum_5 (d := d + E + 35) hp.1 hp.2.1 c4.1 c1 (of_sum (d := d + E + 34) hp (by decide) (fun _ => gj_nextI ?_))
    exact cs_P_sum_15 (d := d + E + 35) (s0 := 0) hp.1 hp.2.1 (cs_P_sum_18 (d := d + E + 35) hp.1 hp.2.1 (fun _ => kk w1 (po_err es f1 B1)) (fun _ _ => kk w1 (po_err es f1 B1)) (fun _ h => absurd rfl h))
  | ok x =>
    obtain ⟨m, p1, o1⟩ := x
    rw [hr] at hPO
    have es : sp_row T L F og_sum ex_2 p ops = sp_ops T L F og_sum ex_2 301 m p1 o1 := by rw [sp_row, hr]
    obtain ⟨f1, ho, n1, c1, ko1, G1, R1, g1⟩ := hPO
    refine cs_P_sum_5 (d := d + E + 35) hp.1 hp.2.1 G1.1.1 G1.2.2.2.1.2.2.2.1 (of_sum (d := d + E + 34) hp G1.g (fun _ => gj_nextI ?_))
    exact cs_P_sum_15 (d := d + E + 35) hp.1 hp.2.1 (rg_sum_loop hp hB hF 301 0 m w1 p1 o1 n1 c1 ko1 rfl (Nat.zero_le _) ho f1 G1 R1 g1 (fun w' hw' => kk w' (by rw [es]; exact hw')))
end Rsum
end Rows
