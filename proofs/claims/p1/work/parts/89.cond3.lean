/-! ===== IN, IS NULL; comparison and condition, whole ===== -/
section Cond3
variable {z : State} {l : Launch} {σ : Hp} {ad : Nat → Nat} {op sg : Nat → Nat} {aO aS mO mS : Nat} {T : Nat → Int32} {L : Nat} {E k : Nat} {X : PX}
section W2
variable {d t o n0 : Nat} {w : Wd} {p ops n c : Nat} {ko : Nat → Nat} {a : Ex} {Q : Outcome → Hp → Prop}
theorem cx_in (hp : PP z σ ad op sg aO aS mO mS L) (hG : GS ad op sg T L w p ops n c ko) (hR : Rep a n0 n c ko (w.eJ 14) (w.eI 15)) (hB : RB z l σ ad op sg mt_P_expression [.ref (ad 16), .int (nI (k + 1)), .retAddr 0, .retAddr 0] E 40) (hX : RG z l σ ad op sg T L mt_P_expression [.ref (ad 16), .int (nI (k + 1)), .retAddr 0, .retAddr 0] E 40 (X (k + 1))) (hk : k < 100) (hg : tk_g T L p = 5) (fin : ∀ w2 v4, PO ad op sg T L w p ops n0 n c ko (sp_inl T L X k a (tk_e T L p) ops) w2 → Go z l mt_P_addEach (d + E + 44) 0 [.ref (ad 16), .ref (op 16), .int (nI t), .retAddr 0] [] (ov σ ad 21 w2) (fun o' σ1 => hp_Le (ov σ ad 21 w2) σ1 → gj_next z l mt_P_comparison (d + E + 45) 271 [.ref (ad 16), .int (nI k), .ref (op o), .int (nI t), v4] [] Q o' σ1)) :
    Go z l mt_S_next (d + E + 44) 0 [.ref (ad 17), .retAddr 0] [] (ov σ ad 21 w) (fun o' σ1 => hp_Le (ov σ ad 21 w) σ1 → gj_next z l mt_P_comparison (d + E + 45) 109 [.ref (ad 16), .int (nI k), .ref (op o), .int (nI t), .retAddr 0] [] Q o' σ1) := by
  have ht := tk_le (T := T) hG.2.2.2.2.2.2.2.2.2.2.1
  have h1 := ht.2.2.2.1 (by rw [hg]; decide)
  have hle := ht.2.2.2.2.2.2.2
  have nle : n ≤ tk_s T L p := hG.2.2.2.2.2.2.2.2.1
  have hRlt := hR.1
  refine cg_next (d := d + E + 24) hp hG (fun w1 f1 G1 _ => gj_nextV (cs_P_comparison_112 (d := d + E + 36) hp.1 hp.2.1 G1.1.2.1 ?_))
  have ej1 : w1.eJ 14 = w.eJ 14 := by rw [f1.2.2.2.2.1]
  have ei1 : w1.eI 15 = w.eI 15 := by rw [f1.2.2.2.1]
  refine cg_addG (d := d + E + 35) hp (by decide) G1 (by omega) (fun w2 f2 G2 r1 r2 _ => gj_nextI (cs_P_comparison_123 (d := d + E + 36) hp.1 hp.2.1 ?_))
  refine go_eq (show d + 3 + E + 41 = d + E + 44 by omega) (rg_list (d := d + 3) hp (by decide) hB (by decide) hX hk (inn := true) (base := 1) ⟨fun _ => rfl, fun _ => rfl⟩ rfl G2 (fun ms p' o' hl w3 n1 c' ko' f3 ho G3 hL hk1 ha1 k3 kc3 hn hc hgn hgc _ => gj_nextV (cs_P_comparison_135 (d := d + E + 36) hp.1 hp.2.1 (fin w3 _ ?_))) (fun e he w3 f3 B3 _ => gj_nextV (cs_P_comparison_135 (d := d + E + 36) hp.1 hp.2.1 (fin w3 _ (po_err (by rw [lst_in, he]) ((PF.nf f1).trans (f2.trans f3)) B3)))))
  have h1000 := gs_1000 G3
  have keep : ∀ x, x < n → ko' x = ko x ∧ w3.eJ 14 x = w.eJ 14 x := fun x hx => by
    rw [(k3 x (by omega)).1, (k3 x (by omega)).2, r1, hp_up_ne _ _ (by omega), hp_up_ne _ _ (by omega), ej1]
    exact ⟨rfl, rfl⟩
  have kc : ∀ x, x < c → w3.eI 15 x = w.eI 15 x := fun x hx => by rw [kc3 x hx, r2, ei1]
  refine po_ok (m := ex_in a ms) (by rw [lst_in, hl]) ((PF.nf f1).trans (f2.trans f3)) ho G3 ?_ ⟨keep, kc, by omega, by omega, by omega, by omega⟩
  rcases hL with ⟨a0, b⟩ | ⟨a0, ps, b, cc, ff⟩
  · exact absurd a0 (by decide)
  · have hkn : ko' n = 8 := by rw [(k3 n (by omega)).1, hp_up_same]
    rw [← b] at ha1 ⊢
    rw [List.length_map] at ha1
    exact rp_in (hR.mono (fun x a1 a2 => keep x a2) kc hc) hkn cc ff (by omega) hk1 ha1
/-- behind NULL (or the broken place): the step IS_NULL, NOT behind it t times -/
theorem nt_end (hp : PP z σ ad op sg aO aS mO mS L) (hG : GS ad op sg T L w p ops n c ko) (hR : Rep a n0 n c ko (w.eJ 14) (w.eI 15)) {t : Nat} {w1 : Wd} {q q' : Nat} (ht1 : t ≤ 1) (hw : w1.eJ 14 = w.eJ 14 ∧ w1.eI 15 = w.eI 15) (hf : PF w w1) (hG1 : GS ad op sg T L w1 q ops n c ko) (hq : tk_s T L p + t + 1 ≤ tk_s T L q) (r : Pr) (hr : r = .ok (ex_it 16 t (ex_isnull a), q, ops)) (kk : ∀ w', PO ad op sg T L w p ops n0 n c ko r w' → Q (.returned none) (ov σ ad 21 w')) : Go z l mt_P_nullTest (d + E + 44) 45 [.ref (ad 16), .int (nI t)] [] (ov σ ad 21 w1) Q := by
  have nle : n ≤ tk_s T L p := hG.2.2.2.2.2.2.2.2.1
  refine cs_P_nullTest_45 (d := d + E + 35) hp.1 hp.2.1 hG1.1.2.1 (cg_addG (d := d + E + 34) hp (by decide) hG1 (by omega) (fun w2 f2 G2 r1 r2 _ => gj_nextI (cs_P_nullTest_56 (d := d + E + 35) hp.1 hp.2.1 ?_)))
  have keep : ∀ x, x < n → va_up ko n 17 x = ko x ∧ w2.eJ 14 x = w.eJ 14 x := fun x hx => by
    rw [r1, hp_up_ne _ _ (by omega), hp_up_ne _ _ (by omega), hw.1]
    exact ⟨rfl, rfl⟩
  have R2 : Rep (ex_isnull a) n0 (n + 1) c (va_up ko n 17) (w2.eJ 14) (w2.eI 15) := rp_isnull (hR.mono (fun x a1 a2 => keep x a2) (fun x _ => by rw [r2, hw.2]) (Nat.le_refl _)) (hp_up_same _ _ _) (by rw [r1]; exact hp_up_same _ _ _)
  refine cg_each (d := d + E + 33) hp (.inl rfl) G2 R2 (by omega) (fun w3 ko3 f3 G3 R3 k3 r3 _ => gj_nextV (cs_P_nullTest_65 (d := d + E + 35) hp.1 (kk w3 (po_ok hr (hf.trans (f2.trans f3)) (Nat.le_refl _) G3 R3 ⟨fun x hx => ?_, fun x hx => ?_, by omega, Nat.le_refl _, by omega, by omega⟩))))
  · rw [(k3 x (by omega)).1, (k3 x (by omega)).2]
    exact keep x hx
  · rw [r3, r2, hw.2]
theorem cx_null (hp : PP z σ ad op sg aO aS mO mS L) (hG : GS ad op sg T L w p ops n c ko) (hR : Rep a n0 n c ko (w.eJ 14) (w.eI 15)) (hg : tk_g T L p = 3) (kk : ∀ w', PO ad op sg T L w p ops n0 n c ko (sp_isnull T L a (tk_e T L p) ops) w' → Q (.returned none) (ov σ ad 21 w')) : Go z l mt_P_nullTest (d + E + 44) 0 [.ref (ad 16), .retAddr 0] [] (ov σ ad 21 w) Q := by
  have ht := tk_le (T := T) hG.2.2.2.2.2.2.2.2.2.2.1
  have h1 := ht.2.2.2.1 (by rw [hg]; decide)
  have hle := ht.2.2.2.2.2.2.2
  -- broken
  have t45 : ∀ (e t : Nat) (w9 : Wd), t ≤ 1 → sp_isnull T L a (tk_e T L p) ops = .error e → PF w w9 → BS ad op sg w9 e → Go z l mt_P_nullTest (d + E + 44) 45 [.ref (ad 16), .int (nI t)] [] (ov σ ad 21 w9) Q := fun e t w9 ht1 hs f9 B9 => by
    obtain ⟨b1, b2, b3, m0, ko0, b4, -, -⟩ := id B9
    exact cs_P_nullTest_45 (d := d + E + 35) hp.1 hp.2.1 b4.2.1 (cb_add (d := d + E + 34) hp.1 hp.2.1 (hp.2.2.1 _ (by decide)) (by decide) B9 (fun w3 v f3 B3 _ => gj_nextI (cs_P_nullTest_56 (d := d + E + 35) hp.1 hp.2.1 (cb_each (d := d + E + 33) hp (by decide) B3 (by omega) (fun w4 f4 B4 _ => gj_nextV (cs_P_nullTest_65 (d := d + E + 35) hp.1 (kk w4 (po_err hs (f9.trans (f3.trans f4)) B4))))))))
  refine cs_P_nullTest (d := d + E + 35) hp.1 hG.1.1 (cg_next (d := d + E + 23) hp hG (fun w1 f1 G1 _ => gj_nextV ?_))
  have ej1 : w1.eJ 14 = w.eJ 14 := by rw [f1.2.2.2.2.1]
  have ei1 : w1.eI 15 = w.eI 15 := by rw [f1.2.2.2.1]
  have ht1 := tk_le (T := T) G1.2.2.2.2.2.2.2.2.2.2.1
  refine cs_P_nullTest_7 (d := d + E + 35) hp.1 hp.2.1 G1.1.1 G1.2.2.2.1.2.2.2.1 (fun h => ?_) (fun h => ?_)
  · have h2 : ¬ tk_g T L (tk_e T L p) = 2 := fun q => h (by rw [q])
    have es : sp_isnull T L a (tk_e T L p) ops = sp_take T L 4 (ex_isnull a) (tk_e T L p) ops := if_neg h2
    refine cg_take (d := d + E + 22) hp (by decide) G1 (fun hg1 w2 f2 G2 _ => gj_nextV ?_) (fun hg1 w2 f2 B2 _ => gj_nextV (t45 _ 0 w2 (by decide) (by rw [es]; exact if_neg hg1) ((PF.nf f1).trans f2) B2))
    have h3 := ht1.2.2.2.1 (by rw [hg1]; decide)
    have hle3 := ht1.2.2.2.2.2.2.2
    exact nt_end hp hG hR (t := 0) (q' := 0) (by decide) ⟨by rw [f2.2.2.2.2.1]; exact ej1, by rw [f2.2.2.2.1]; exact ei1⟩ ((PF.nf f1).trans (PF.nf f2)) G2 (by omega) _ (by rw [es]; exact if_pos hg1) kk
  · have h2 := sg_inj hp.2.1 G1.g (by decide) h
    have es : sp_isnull T L a (tk_e T L p) ops = sp_take T L 4 (ex_1 16 (ex_isnull a)) (tk_e T L (tk_e T L p)) ops := if_pos h2
    have h3 := ht1.2.2.2.1 (by rw [h2]; decide)
    have hle3 := ht1.2.2.2.2.2.2.2
    refine cg_next (d := d + E + 23) hp G1 (fun w2 f2 G2 _ => gj_nextV (cs_P_nullTest_38 (d := d + E + 35) hp.1 hp.2.1 ?_))
    have ht2 := tk_le (T := T) G2.2.2.2.2.2.2.2.2.2.2.1
    refine cg_take (d := d + E + 22) hp (by decide) G2 (fun hg2 w3 f3 G3 _ => gj_nextV ?_) (fun hg2 w3 f3 B3 _ => gj_nextV (t45 _ 1 w3 (by decide) (by rw [es]; exact if_neg hg2) ((PF.nf f1).trans ((PF.nf f2).trans f3)) B3))
    have h4 := ht2.2.2.2.1 (by rw [hg2]; decide)
    have hle4 := ht2.2.2.2.2.2.2.2
    exact nt_end hp hG hR (t := 1) (q' := 0) (by decide) ⟨by rw [f3.2.2.2.2.1, f2.2.2.2.2.1]; exact ej1, by rw [f3.2.2.2.1, f2.2.2.2.1]; exact ei1⟩ ((PF.nf f1).trans ((PF.nf f2).trans (PF.nf f3))) G3 (by omega) _ (by rw [es]; exact if_pos hg2) kk
end W2
section Whole
theorem rg_comparison (hp : PP z σ ad op sg aO aS mO mS L) (hBx : RB z l σ ad op sg mt_P_expression [.ref (ad 16), .int (nI (k + 1)), .retAddr 0, .retAddr 0] E 40) (hXx : RG z l σ ad op sg T L mt_P_expression [.ref (ad 16), .int (nI (k + 1)), .retAddr 0, .retAddr 0] E 40 (X (k + 1))) (hBs : RB z l σ ad op sg mt_P_sum [.ref (ad 16), .int (nI k), .retAddr 0, .retAddr 0] E 44) (hFs : RG z l σ ad op sg T L mt_P_sum [.ref (ad 16), .int (nI k), .retAddr 0, .retAddr 0] E 44 (sp_sum T L X k)) (hk : k < 100) {d n0 : Nat} {w : Wd} {p ops n c : Nat} {ko : Nat → Nat} {a : Ex} {Q : Outcome → Hp → Prop} (hG : GS ad op sg T L w p ops n c ko) (hR : Rep a n0 n c ko (w.eJ 14) (w.eI 15)) (kk : ∀ w', PO ad op sg T L w p ops n0 n c ko (sp_cmpr T L X k a p ops) w' → Q (.returned none) (ov σ ad 21 w')) : Go z l mt_P_comparison (d + E + 45) 0 [.ref (ad 16), .int (nI k), .retAddr 0, .retAddr 0, .retAddr 0] [] (ov σ ad 21 w) Q := by
  have hpL : p ≤ L := hG.2.2.2.2.2.2.2.2.2.2.1
  have ht := tk_le (T := T) hpL
  have nle : n ≤ tk_s T L p := hG.2.2.2.2.2.2.2.2.1
  refine cs_P_comparison (d := d + E + 36) hp.1 hp.2.1 hG.1.1 hG.2.2.2.1.2.2.2.1 (of_cmp (d := d + E + 35) hp hG.g (fun _ => gj_nextI ?_))
  have hlt : og_cmp (tk_g T L p) < 43 := (by decide +kernel : ∀ g, g < 35 → og_cmp g < 43) _ hG.g
  -- without NOT in front of IN, LIKE, BETWEEN
  have fin0 : ∀ (r : Pr), sp_cmpr T L X k a p ops = r → ∀ w2 v4, PO ad op sg T L w p ops n0 n c ko r w2 → Go z l mt_P_addEach (d + E + 44) 0 [.ref (ad 16), .ref (op 16), .int (nI 0), .retAddr 0] [] (ov σ ad 21 w2) (fun o' σ1 => hp_Le (ov σ ad 21 w2) σ1 → gj_next z l mt_P_comparison (d + E + 45) 271 [.ref (ad 16), .int (nI k), .ref (op (og_cmp (tk_g T L p))), .int (nI 0), v4] [] Q o' σ1) := fun r hr w2 v4 h => cmp_fin hp (t := 0) (NF.refl w) (by decide) nle (Nat.le_refl _) h (fun w' hw' => kk w' (by
    rw [hr]
    cases r with
    | error e => exact hw'
    | ok x => exact hw'))
  have no : ∀ g : Nat, g < 35 → ¬ some (sg (tk_g T L p)) = some (sg g) → ¬ tk_g T L p = g := fun g _ h q => h (by rw [q])
  have yes : ∀ g : Nat, g < 35 → some (sg (tk_g T L p)) = some (sg g) → tk_g T L p = g := fun g hg h => sg_inj hp.2.1 hG.g hg h
  have zero : some (op (og_cmp (tk_g T L p))) = some (op 0) → og_cmp (tk_g T L p) = 0 := fun h => op_inj hp.2.1 hlt (by decide) h
  have w0 : og_cmp (tk_g T L p) = 0 → ¬ tk_g T L p = 3 → ¬ tk_g T L p = 2 → sp_cmpr T L X k a p ops = sp_within T L X k a false p ops := fun h0 h3 h2 => (if_neg (fun q => q h0)).trans ((if_neg h3).trans (if_neg h2))
  refine cs_P_comparison_10 (d := d + E + 36) hp.1 hp.2.1 hG.1.1 hG.2.2.2.1.2.2.2.1 (fun h0 h3 h2 h5 h6 h7 => ?_) (fun h0 h3 h2 h5 h6 h7 => ?_) (fun h0 h3 h2 h5 h6 => ?_) (fun h0 h3 h2 h5 => ?_) (fun h0 h3 h2 => ?_) (fun h0 h3 => ?_) (fun h0 => ?_)
  · have es : sp_cmpr T L X k a p ops = .ok (a, p, ops) := (w0 (zero h0) (no 3 (by decide) h3) (no 2 (by decide) h2)).trans ((if_neg (no 5 (by decide) h5)).trans ((if_neg (no 6 (by decide) h6)).trans ((if_neg (no 7 (by decide) h7)).trans (if_neg (by decide)))))
    exact fin0 _ es w _ (po_ok rfl (PF.refl w) (Nat.le_refl _) hG hR (Gr.refl T L w p n c ko))
  · have hg := yes 7 (by decide) h7
    have es : sp_cmpr T L X k a p ops = sp_betw T L X k a (tk_e T L p) ops := (w0 (zero h0) (no 3 (by decide) h3) (no 2 (by decide) h2)).trans ((if_neg (no 5 (by decide) h5)).trans ((if_neg (no 6 (by decide) h6)).trans (if_pos hg)))
    exact cx_betw hp hFs hG hR (t := 0) hBs hg (fin0 _ es)
  · have hg := yes 6 (by decide) h6
    have es : sp_cmpr T L X k a p ops = sp_two T L X k 26 a (tk_e T L p) ops := (w0 (zero h0) (no 3 (by decide) h3) (no 2 (by decide) h2)).trans ((if_neg (no 5 (by decide) h5)).trans (if_pos hg))
    exact cx_like hp hFs hG hR (t := 0) hg (fin0 _ es)
  · have hg := yes 5 (by decide) h5
    have es : sp_cmpr T L X k a p ops = sp_inl T L X k a (tk_e T L p) ops := (w0 (zero h0) (no 3 (by decide) h3) (no 2 (by decide) h2)).trans (if_pos hg)
    exact cx_in hp hG hR (t := 0) hBx hXx hk hg (fin0 _ es)
  · -- NOT in front
    have hg := yes 2 (by decide) h2
    have h1 := ht.2.2.2.1 (by rw [hg]; decide)
    have hle := ht.2.2.2.2.2.2.2
    have es : sp_cmpr T L X k a p ops = match sp_within T L X k a true (tk_e T L p) ops with
        | .error e => .error e
        | .ok (m, p2, o2) => .ok (ex_1 16 m, p2, o2) := (if_neg (fun q => q (zero h0))).trans ((if_neg (no 3 (by decide) h3)).trans (if_pos hg))
    refine cg_next (d := d + E + 24) hp hG (fun w1 f1 G1 _ => gj_nextV ?_)
    have ej1 : w1.eJ 14 = w.eJ 14 := by rw [f1.2.2.2.2.1]
    have ei1 : w1.eI 15 = w.eI 15 := by rw [f1.2.2.2.1]
    have hR1 : Rep a n0 n c ko (w1.eJ 14) (w1.eI 15) := by rw [ej1, ei1]; exact hR
    have fin1 : ∀ (r : Pr), sp_within T L X k a true (tk_e T L p) ops = r → ∀ w2 v4, PO ad op sg T L w1 (tk_e T L p) ops n0 n c ko r w2 → Go z l mt_P_addEach (d + E + 44) 0 [.ref (ad 16), .ref (op 16), .int (nI 1), .retAddr 0] [] (ov σ ad 21 w2) (fun o' σ1 => hp_Le (ov σ ad 21 w2) σ1 → gj_next z l mt_P_comparison (d + E + 45) 271 [.ref (ad 16), .int (nI k), .ref (op (og_cmp (tk_g T L p))), .int (nI 1), v4] [] Q o' σ1) := fun r hr w2 v4 h => cmp_fin hp (t := 1) f1 (by decide) nle (by omega) h (fun w' hw' => kk w' (by
      rw [es, hr]
      cases r with
      | error e => exact hw'
      | ok x => exact hw'))
    have no1 : ∀ g : Nat, g < 35 → ¬ some (sg (tk_g T L (tk_e T L p))) = some (sg g) → ¬ tk_g T L (tk_e T L p) = g := fun g _ h q => h (by rw [q])
    have yes1 : ∀ g : Nat, g < 35 → some (sg (tk_g T L (tk_e T L p))) = some (sg g) → tk_g T L (tk_e T L p) = g := fun g hg h => sg_inj hp.2.1 G1.g hg h
    refine cs_P_comparison_92 (d := d + E + 36) hp.1 hp.2.1 G1.1.1 G1.2.2.2.1.2.2.2.1 (fun _ _ _ h => absurd rfl h) (fun _ _ _ _ h => absurd G1.2.2.2.2.1 h) (fun h5 h6 h7 _ _ => ?_) (fun h5 h6 h7 => ?_) (fun h5 h6 => ?_) (fun h5 => ?_)
    · have ew : sp_within T L X k a true (tk_e T L p) ops = .error (tk_s T L (tk_e T L p)) := (if_neg (no1 5 (by decide) h5)).trans ((if_neg (no1 6 (by decide) h6)).trans ((if_neg (no1 7 (by decide) h7)).trans (if_pos rfl)))
      exact fin1 _ ew _ _ (po_err rfl (pf_at _ _) (gs_break G1))
    · have hg1 := yes1 7 (by decide) h7
      have ew : sp_within T L X k a true (tk_e T L p) ops = sp_betw T L X k a (tk_e T L (tk_e T L p)) ops := (if_neg (no1 5 (by decide) h5)).trans ((if_neg (no1 6 (by decide) h6)).trans (if_pos hg1))
      exact cx_betw hp hFs G1 hR1 (t := 1) hBs hg1 (fin1 _ ew)
    · have hg1 := yes1 6 (by decide) h6
      have ew : sp_within T L X k a true (tk_e T L p) ops = sp_two T L X k 26 a (tk_e T L (tk_e T L p)) ops := (if_neg (no1 5 (by decide) h5)).trans (if_pos hg1)
      exact cx_like hp hFs G1 hR1 (t := 1) hg1 (fin1 _ ew)
    · have hg1 := yes1 5 (by decide) h5
      have ew : sp_within T L X k a true (tk_e T L p) ops = sp_inl T L X k a (tk_e T L (tk_e T L p)) ops := if_pos hg1
      exact cx_in hp G1 hR1 (t := 1) hBx hXx hk hg1 (fin1 _ ew)
  · have hg := yes 3 (by decide) h3
    have es : sp_cmpr T L X k a p ops = sp_isnull T L a (tk_e T L p) ops := (if_neg (fun q => q (zero h0))).trans (if_pos hg)
    exact cx_null hp hG hR hg (fun w' hw' _ => gj_nextV (cs_P_comparison_60 (d := d + E + 36) hp.1 hp.2.1 (kk w' (by rw [es]; exact hw'))))
  · have h0' : ¬ og_cmp (tk_g T L p) = 0 := fun q => h0 (by rw [q])
    exact cx_cmp hp hFs hG hR h0' (fun w' hw' => kk w' (by
      rw [sp_cmpr, if_pos h0']
      exact hw'))
theorem rg_condB (hp : PP z σ ad op sg aO aS mO mS L) (hBx : RB z l σ ad op sg mt_P_expression [.ref (ad 16), .int (nI (k + 1)), .retAddr 0, .retAddr 0] E 40) (hXx : RG z l σ ad op sg T L mt_P_expression [.ref (ad 16), .int (nI (k + 1)), .retAddr 0, .retAddr 0] E 40 (X (k + 1))) (hBs : RB z l σ ad op sg mt_P_sum [.ref (ad 16), .int (nI k), .retAddr 0, .retAddr 0] E 44) (hFs : RG z l σ ad op sg T L mt_P_sum [.ref (ad 16), .int (nI k), .retAddr 0, .retAddr 0] E 44 (sp_sum T L X k)) (hk : k < 100) {d j q : Nat} {w w1 : Wd} {p ops n c : Nat} {ko : Nat → Nat} {v1 : Int32} {Q : Outcome → Hp → Prop} (hG : GS ad op sg T L w p ops n c ko) (hf1 : NF w w1) (hG1 : GS ad op sg T L w1 q ops n c ko) (hj : j ≤ 30) (hq : tk_s T L p + j ≤ tk_s T L q) (hv : v1 + nI j = nI k)
    (kk : ∀ w', PO ad op sg T L w p ops n n c ko (match sp_condB T L X k q ops with
      | .error e => .error e
      | .ok (m, p2, o2) => .ok (ex_it 16 j m, p2, o2)) w' → Q (.returned none) (ov σ ad 21 w')) :
    Go z l mt_P_condition (d + E + 46) 8 [.ref (ad 16), .int v1, .retAddr 0] [.int (nI j)] (ov σ ad 21 w1) Q := by
  have ej1 : w1.eJ 14 = w.eJ 14 := by rw [hf1.2.2.2.2.1]
  have ei1 : w1.eI 15 = w.eI 15 := by rw [hf1.2.2.2.1]
  have nle : n ≤ tk_s T L p := hG.2.2.2.2.2.2.2.2.1
  -- the end
  have en : ∀ (r : Pr), sp_condB T L X k q ops = r → ∀ w2, PO ad op sg T L w1 q ops n n c ko r w2 → Go z l mt_P_condition (d + E + 46) 23 [.ref (ad 16), .int v1, .int (nI j)] [] (ov σ ad 21 w2) Q := fun r hr w2 hPO => by
    rw [hr] at kk
    refine cs_P_condition_23 (d := d + E + 37) hp.1 hp.2.1 ?_
    cases r with
    | error e => exact cb_each (d := d + E + 35) hp (by decide) hPO.2 (by omega) (fun w3 f3 B3 _ => gj_nextV (cs_P_condition_31 (d := d + E + 37) hp.1 (kk w3 (po_err rfl ((PF.nf hf1).trans (hPO.1.trans f3)) B3))))
    | ok x =>
      obtain ⟨m, p2, o2⟩ := x
      obtain ⟨f2, ho, n2, c2, ko2, G2, R2, g2⟩ := hPO
      have gg := g2.2.2
      refine cg_each (d := d + E + 35) hp (.inl rfl) G2 R2 (by omega) (fun w3 ko3 f3 G3 R3 k3 r3 _ => gj_nextV (cs_P_condition_31 (d := d + E + 37) hp.1 (kk w3 (po_ok rfl ((PF.nf hf1).trans (f2.trans f3)) ho G3 R3 ⟨fun x hx => ?_, fun x hx => ?_, by omega, by omega, by omega, by omega⟩))))
      · rw [(k3 x (by omega)).1, (k3 x (by omega)).2, (g2.1 x hx).1, (g2.1 x hx).2, ej1]
        exact ⟨rfl, rfl⟩
      · rw [r3, g2.2.1 x hx, ei1]
  refine cs_P_condition_8 (d := d + E + 37) hp.1 ?_
  rw [hv]
  refine go_eq (show d + 1 + E + 44 = d + E + 45 by omega) (hFs (d + 1) w1 q ops n c ko _ hG1 (fun w2 hPO _ => gj_nextV ?_))
  refine cs_P_condition_16 (d := d + E + 37) hp.1 ?_
  rw [hv]
  cases hr : sp_sum T L X k q ops with
  | error e =>
    rw [hr] at hPO
    exact rb_comparison hp d w2 e _ hPO.2 (fun w3 f3 B3 _ => gj_nextV (en _ (by rw [sp_condB, hr]) w3 (po_err rfl (hPO.1.trans f3) B3)))
  | ok x =>
    obtain ⟨a, p2, o2⟩ := x
    rw [hr] at hPO
    obtain ⟨f2, ho, n2, c2, ko2, G2, R2, g2⟩ := hPO
    have es : sp_condB T L X k q ops = sp_cmpr T L X k a p2 o2 := by
      rw [sp_condB, hr]
    refine rg_comparison hp hBx hXx hBs hFs hk G2 R2 (fun w3 hPO3 _ => gj_nextV (en _ es w3 ?_))
    cases hr3 : sp_cmpr T L X k a p2 o2 with
    | error e =>
      rw [hr3] at hPO3
      exact po_err rfl (f2.trans hPO3.1) hPO3.2
    | ok y =>
      obtain ⟨m, p3, o3⟩ := y
      rw [hr3] at hPO3
      obtain ⟨f3, ho3, n3, c3, ko3, G3, R3, g3⟩ := hPO3
      exact po_ok rfl (f2.trans f3) (by omega) G3 R3 (g2.trans g3)
end Whole
end Cond3
