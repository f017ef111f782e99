/-! ===== what may stand behind the first S ===== -/
section Cond2
variable {z : State} {l : Launch} {σ : Hp} {ad : Nat → Nat} {op sg : Nat → Nat} {aO aS mO mS : Nat} {T : Nat → Int32} {L : Nat} {E k : Nat} {X : PX}
theorem lst_in {a : Ex} {p ops : Nat} : sp_inl T L X k a p ops = match sp_lst T L X k true p ops with
    | .error e => .error e
    | .ok (ms, p2, o2) => .ok (ex_in a ms, p2, o2) := by
  unfold sp_inl sp_lst
  by_cases h30 : tk_g T L p = 30
  · rw [if_pos h30, if_pos h30, if_neg (fun q => absurd q.1 (by decide))]
    cases sp_list T L X k 8 (tk_e T L p) ops with
    | error e => rfl
    | ok x =>
      obtain ⟨ms, p2, o2⟩ := x
      show sp_take T L 31 _ _ _ = match sp_take T L 31 _ _ _ with
        | .error e => .error e
        | .ok (ms, p2, o2) => .ok (ex_in a ms, p2, o2)
      unfold sp_take
      split <;> rfl
  · rw [if_neg h30, if_neg h30]
section W
variable {d t o n0 : Nat} {w : Wd} {p ops n c : Nat} {ko : Nat → Nat} {a : Ex} {Q : Outcome → Hp → Prop}
theorem cx_like (hp : PP z σ ad op sg aO aS mO mS L) (hFs : RG z l σ ad op sg T L mt_P_sum [.ref (ad 16), .int (nI k), .retAddr 0, .retAddr 0] E 44 (sp_sum T L X k)) (hG : GS ad op sg T L w p ops n c ko) (hR : Rep a n0 n c ko (w.eJ 14) (w.eI 15)) (hg : tk_g T L p = 6) (fin : ∀ w2 v4, PO ad op sg T L w p ops n0 n c ko (sp_two T L X k 26 a (tk_e T L p) ops) w2 → Go z l mt_P_addEach (d + E + 44) 0 [.ref (ad 16), .ref (op 16), .int (nI t), .retAddr 0] [] (ov σ ad 21 w2) (fun o' σ1 => hp_Le (ov σ ad 21 w2) σ1 → gj_next z l mt_P_comparison (d + E + 45) 271 [.ref (ad 16), .int (nI k), .ref (op o), .int (nI t), v4] [] Q o' σ1)) :
    Go z l mt_S_next (d + E + 44) 0 [.ref (ad 17), .retAddr 0] [] (ov σ ad 21 w) (fun o' σ1 => hp_Le (ov σ ad 21 w) σ1 → gj_next z l mt_P_comparison (d + E + 45) 155 [.ref (ad 16), .int (nI k), .ref (op o), .int (nI t), .retAddr 0] [] Q o' σ1) := by
  have ht := tk_le (T := T) hG.2.2.2.2.2.2.2.2.2.2.1
  have h1 := ht.2.2.2.1 (by rw [hg]; decide)
  have hle := ht.2.2.2.2.2.2.2
  have nle : n ≤ tk_s T L p := hG.2.2.2.2.2.2.2.2.1
  refine cg_next (d := d + E + 24) hp hG (fun w1 f1 G1 _ => gj_nextV (cs_P_comparison_158 (d := d + E + 36) hp.1 hp.2.1 ?_))
  have ej1 : w1.eJ 14 = w.eJ 14 := by rw [f1.2.2.2.2.1]
  have ei1 : w1.eI 15 = w.eI 15 := by rw [f1.2.2.2.1]
  refine cmp_sum hp hFs G1 (fun e he w2 f2 B2 _ => gj_nextV ?_) (fun b p2 o2 hr w2 n2 c2 ko2 f2 ho G2 R2 g2 _ => gj_nextV ?_)
  · obtain ⟨b1, b2, b3, m0, ko0, b4, -, -⟩ := id B2
    refine cs_P_comparison_163 (d := d + E + 36) hp.1 hp.2.1 b4.2.1 (cb_add (d := d + E + 35) hp.1 hp.2.1 (hp.2.2.1 _ (by decide)) (by decide) B2 (fun w3 v f3 B3 _ => gj_nextI (cs_P_comparison_176 (d := d + E + 36) hp.1 hp.2.1 (fin w3 _ (po_err (by rw [sp_two, he]) ((PF.nf f1).trans (f2.trans f3)) B3)))))
  · have gg := g2.2.2
    refine cs_P_comparison_163 (d := d + E + 36) hp.1 hp.2.1 G2.1.2.1 (cg_addG (d := d + E + 35) hp (by decide) G2 (by omega) (fun w3 f3 G3 r1 r2 _ => gj_nextI (cs_P_comparison_176 (d := d + E + 36) hp.1 hp.2.1 (fin w3 _ ?_))))
    refine po_ok (m := ex_2 26 a b) (by rw [sp_two, hr]) ((PF.nf f1).trans (f2.trans f3)) ho G3 (rp_2 (o := 26) ⟨by decide, by decide⟩ (hR.mono (fun x a1 a2 => ?_) (fun x hx => ?_) (by omega)) (R2.mono (fun x a1 a2 => ?_) (fun x _ => by rw [r2]) (Nat.le_refl _)) (hp_up_same _ _ _) (by rw [r1]; exact hp_up_same _ _ _)) ⟨fun x hx => ?_, fun x hx => ?_, by omega, by omega, by omega, by omega⟩
    · rw [r1, hp_up_ne _ _ (by omega), hp_up_ne _ _ (by omega), (g2.1 x a2).1, (g2.1 x a2).2, ej1]
      exact ⟨rfl, rfl⟩
    · rw [r2, g2.2.1 x hx, ei1]
    · rw [r1, hp_up_ne _ _ (by omega), hp_up_ne _ _ (by omega)]
      exact ⟨rfl, rfl⟩
    · rw [r1, hp_up_ne _ _ (by omega), hp_up_ne _ _ (by omega), (g2.1 x hx).1, (g2.1 x hx).2, ej1]
      exact ⟨rfl, rfl⟩
    · rw [r2, g2.2.1 x hx, ei1]
theorem cx_cmp (hp : PP z σ ad op sg aO aS mO mS L) (hFs : RG z l σ ad op sg T L mt_P_sum [.ref (ad 16), .int (nI k), .retAddr 0, .retAddr 0] E 44 (sp_sum T L X k)) (hG : GS ad op sg T L w p ops n c ko) (hR : Rep a n0 n c ko (w.eJ 14) (w.eI 15)) (hg : ¬ og_cmp (tk_g T L p) = 0) (kk : ∀ w', PO ad op sg T L w p ops n0 n c ko (sp_two T L X k (og_cmp (tk_g T L p)) a (tk_e T L p) ops) w' → Q (.returned none) (ov σ ad 21 w')) :
    Go z l mt_S_next (d + E + 44) 0 [.ref (ad 17), .retAddr 0] [] (ov σ ad 21 w) (fun o' σ1 => hp_Le (ov σ ad 21 w) σ1 → gj_next z l mt_P_comparison (d + E + 45) 22 [.ref (ad 16), .int (nI k), .ref (op (og_cmp (tk_g T L p))), .retAddr 0, .retAddr 0] [] Q o' σ1) := by
  have ht := tk_le (T := T) hG.2.2.2.2.2.2.2.2.2.2.1
  obtain ⟨h33, h20, h25⟩ := og_cmp_ok _ hG.g hg
  have h1 := ht.2.2.2.1 h33
  have hle := ht.2.2.2.2.2.2.2
  have nle : n ≤ tk_s T L p := hG.2.2.2.2.2.2.2.2.1
  refine cg_next (d := d + E + 24) hp hG (fun w1 f1 G1 _ => gj_nextV (cs_P_comparison_25 (d := d + E + 36) hp.1 hp.2.1 ?_))
  have ej1 : w1.eJ 14 = w.eJ 14 := by rw [f1.2.2.2.2.1]
  have ei1 : w1.eI 15 = w.eI 15 := by rw [f1.2.2.2.1]
  refine cmp_sum hp hFs G1 (fun e he w2 f2 B2 _ => gj_nextV ?_) (fun b p2 o2 hr w2 n2 c2 ko2 f2 ho G2 R2 g2 _ => gj_nextV ?_)
  · obtain ⟨b1, b2, b3, m0, ko0, b4, -, -⟩ := id B2
    refine cs_P_comparison_30 (d := d + E + 36) hp.1 hp.2.1 b4.2.1 (cb_add (d := d + E + 35) hp.1 hp.2.1 (hp.2.2.1 _ (by omega)) (by omega) B2 (fun w3 v f3 B3 _ => gj_nextI (cs_P_comparison_41 (d := d + E + 36) hp.1 hp.2.1 (kk w3 (po_err (by rw [sp_two, he]) ((PF.nf f1).trans (f2.trans f3)) B3)))))
  · have gg := g2.2.2
    refine cs_P_comparison_30 (d := d + E + 36) hp.1 hp.2.1 G2.1.2.1 (cg_addG (d := d + E + 35) hp (by omega) G2 (by omega) (fun w3 f3 G3 r1 r2 _ => gj_nextI (cs_P_comparison_41 (d := d + E + 36) hp.1 hp.2.1 (kk w3 ?_))))
    refine po_ok (m := ex_2 (og_cmp (tk_g T L p)) a b) (by rw [sp_two, hr]) ((PF.nf f1).trans (f2.trans f3)) ho G3 (rp_2 ⟨h20, by omega⟩ (hR.mono (fun x a1 a2 => ?_) (fun x hx => ?_) (by omega)) (R2.mono (fun x a1 a2 => ?_) (fun x _ => by rw [r2]) (Nat.le_refl _)) (hp_up_same _ _ _) (by rw [r1]; exact hp_up_same _ _ _)) ⟨fun x hx => ?_, fun x hx => ?_, by omega, by omega, by omega, by omega⟩
    · rw [r1, hp_up_ne _ _ (by omega), hp_up_ne _ _ (by omega), (g2.1 x a2).1, (g2.1 x a2).2, ej1]
      exact ⟨rfl, rfl⟩
    · rw [r2, g2.2.1 x hx, ei1]
    · rw [r1, hp_up_ne _ _ (by omega), hp_up_ne _ _ (by omega)]
      exact ⟨rfl, rfl⟩
    · rw [r1, hp_up_ne _ _ (by omega), hp_up_ne _ _ (by omega), (g2.1 x hx).1, (g2.1 x hx).2, ej1]
      exact ⟨rfl, rfl⟩
    · rw [r2, g2.2.1 x hx, ei1]
theorem cx_betw (hp : PP z σ ad op sg aO aS mO mS L) (hFs : RG z l σ ad op sg T L mt_P_sum [.ref (ad 16), .int (nI k), .retAddr 0, .retAddr 0] E 44 (sp_sum T L X k)) (hG : GS ad op sg T L w p ops n c ko) (hR : Rep a n0 n c ko (w.eJ 14) (w.eI 15)) (hBs : RB z l σ ad op sg mt_P_sum [.ref (ad 16), .int (nI k), .retAddr 0, .retAddr 0] E 44) (hg : tk_g T L p = 7) (fin : ∀ w2 v4, PO ad op sg T L w p ops n0 n c ko (sp_betw T L X k a (tk_e T L p) ops) w2 → Go z l mt_P_addEach (d + E + 44) 0 [.ref (ad 16), .ref (op 16), .int (nI t), .retAddr 0] [] (ov σ ad 21 w2) (fun o' σ1 => hp_Le (ov σ ad 21 w2) σ1 → gj_next z l mt_P_comparison (d + E + 45) 271 [.ref (ad 16), .int (nI k), .ref (op o), .int (nI t), v4] [] Q o' σ1)) :
    Go z l mt_S_next (d + E + 44) 0 [.ref (ad 17), .retAddr 0] [] (ov σ ad 21 w) (fun o' σ1 => hp_Le (ov σ ad 21 w) σ1 → gj_next z l mt_P_comparison (d + E + 45) 197 [.ref (ad 16), .int (nI k), .ref (op o), .int (nI t), .retAddr 0] [] Q o' σ1) := by
  have ht := tk_le (T := T) hG.2.2.2.2.2.2.2.2.2.2.1
  have h1 := ht.2.2.2.1 (by rw [hg]; decide)
  have hle := ht.2.2.2.2.2.2.2
  have nle : n ≤ tk_s T L p := hG.2.2.2.2.2.2.2.2.1
  -- broken: from the step that closes
  have t232 : ∀ (e : Nat) (w9 : Wd) (v4 : Int32), sp_betw T L X k a (tk_e T L p) ops = .error e → PF w w9 → BS ad op sg w9 e → Go z l mt_P_comparison (d + E + 45) 232 [.ref (ad 16), .int (nI k), .ref (op o), .int (nI t), .int v4] [] (ov σ ad 21 w9) Q := fun e w9 v4 hs f9 B9 => by
    obtain ⟨b1, b2, b3, m0, ko0, b4, -, -⟩ := id B9
    exact cs_P_comparison_232 (d := d + E + 36) hp.1 hp.2.1 b4.2.1 (cb_add (d := d + E + 35) hp.1 hp.2.1 (hp.2.2.1 _ (by decide)) (by decide) B9 (fun w3 v f3 B3 _ => gj_nextI (cs_P_comparison_251 (d := d + E + 36) hp.1 hp.2.1 (cb_aim (d := d + E + 35) hp.1 B3 (fun w4 f4 B4 _ => gj_nextV (cs_P_comparison_254 (d := d + E + 36) hp.1 hp.2.1 (fin w4 _ (po_err hs (f9.trans (f3.trans f4)) B4))))))))
  have t227 : ∀ (e : Nat) (w9 : Wd) (v4 : Int32), sp_betw T L X k a (tk_e T L p) ops = .error e → PF w w9 → BS ad op sg w9 e → Go z l mt_P_comparison (d + E + 45) 227 [.ref (ad 16), .int (nI k), .ref (op o), .int (nI t), .int v4] [] (ov σ ad 21 w9) Q := fun e w9 v4 hs f9 B9 =>
    cs_P_comparison_227 (d := d + E + 36) hp.1 hp.2.1 (hBs d w9 e _ B9 (fun w3 f3 B3 _ => gj_nextV (t232 e w3 v4 hs (f9.trans f3) B3)))
  refine cg_next (d := d + E + 24) hp hG (fun w1 f1 G1 _ => gj_nextV (cs_P_comparison_200 (d := d + E + 36) hp.1 hp.2.1 ?_))
  have ej1 : w1.eJ 14 = w.eJ 14 := by rw [f1.2.2.2.2.1]
  have ei1 : w1.eI 15 = w.eI 15 := by rw [f1.2.2.2.1]
  refine cmp_sum hp hFs G1 (fun e he w2 f2 B2 _ => gj_nextV ?_) (fun b p2 o2 hr w2 n2 c2 ko2 f2 ho G2 R2 g2 _ => gj_nextV ?_)
  · obtain ⟨b1, b2, b3, m0, ko0, b4, -, -⟩ := id B2
    refine cs_P_comparison_205 (d := d + E + 36) hp.1 hp.2.1 b4.2.1 (cb_add (d := d + E + 35) hp.1 hp.2.1 (hp.2.2.1 _ (by decide)) (by decide) B2 (fun w3 v f3 B3 _ => gj_nextI (cs_P_comparison_218 (d := d + E + 36) hp.1 hp.2.1 (cb_take (d := d + E + 35) hp (by decide) B3 (fun w4 f4 B4 _ => gj_nextV (t227 e w4 v (by rw [sp_betw, he]) ((PF.nf f1).trans (f2.trans (f3.trans f4))) B4))))))
  · have gg := g2.2.2
    have R2lt := R2.1
    have ht2 := tk_le (T := T) G2.2.2.2.2.2.2.2.2.2.2.1
    refine cs_P_comparison_205 (d := d + E + 36) hp.1 hp.2.1 G2.1.2.1 (cg_addG (d := d + E + 35) hp (by decide) G2 (by omega) (fun w3 f3 G3 r3 r3' _ => gj_nextI (cs_P_comparison_218 (d := d + E + 36) hp.1 hp.2.1 ?_)))
    refine cg_take (d := d + E + 23) hp (by decide) G3 (fun hg2 w4 f4 G4 _ => gj_nextV ?_) (fun hg2 w4 f4 B4 _ => gj_nextV (t227 _ w4 _ (by
      rw [sp_betw, hr]
      exact if_neg hg2) ((PF.nf f1).trans (f2.trans (f3.trans f4))) B4))
    have h2 := ht2.2.2.2.1 (by rw [hg2]; decide)
    have hle2 := ht2.2.2.2.2.2.2.2
    have ej4 : w4.eJ 14 = w3.eJ 14 := by rw [f4.2.2.2.2.1]
    have ei4 : w4.eI 15 = w3.eI 15 := by rw [f4.2.2.2.1]
    refine cs_P_comparison_227 (d := d + E + 36) hp.1 hp.2.1 (cmp_sum hp hFs G4 (fun e he w5 f5 B5 _ => gj_nextV (t232 e w5 _ (by
      rw [sp_betw, hr]
      show (if tk_g T L p2 = 1 then _ else _) = _
      rw [if_pos hg2, he]) ((PF.nf f1).trans (f2.trans (f3.trans ((PF.nf f4).trans f5)))) B5)) (fun m3 p5 o5 hr5 w5 n5 c5 ko5 f5 ho5 G5 R5 g5 _ => gj_nextV ?_))
    have gg5 := g5.2.2
    have h1000 := gs_1000 G5
    have R5lt := R5.1
    refine cs_P_comparison_232 (d := d + E + 36) hp.1 hp.2.1 G5.1.2.1 (cg_addG (d := d + E + 35) hp (by decide) G5 (by omega) (fun w6 f6 G6 r6 r6' _ => gj_nextI ?_))
    have hj6 : w6.eJ 14 n2 = -1 := by rw [r6, hp_up_ne _ _ (by omega), (g5.1 n2 (by omega)).2, ej4, r3, hp_up_same]
    refine cs_P_comparison_251 (d := d + E + 36) hp.1 hp.2.1 (cg_aim1 (d := d + E + 35) hp G6 (by omega) hj6 (by omega) (fun w7 f7 G7 r7 r7' _ => gj_nextV (cs_P_comparison_254 (d := d + E + 36) hp.1 hp.2.1 (fin w7 _ ?_))))
    have keep : ∀ x, x < n → va_up ko5 n5 19 x = ko x ∧ w7.eJ 14 x = w.eJ 14 x := fun x hx => by
      rw [r7, hp_up_ne _ _ (by omega), r6, hp_up_ne _ _ (by omega), hp_up_ne _ _ (by omega), (g5.1 x (by omega)).1, (g5.1 x (by omega)).2, ej4, r3, hp_up_ne _ _ (by omega), hp_up_ne _ _ (by omega), (g2.1 x hx).1, (g2.1 x hx).2, ej1]
      exact ⟨rfl, rfl⟩
    have kc : ∀ x, x < c → w7.eI 15 x = w.eI 15 x := fun x hx => by rw [r7', r6', g5.2.1 x (by omega), ei4, r3', g2.2.1 x hx, ei1]
    refine po_ok (m := ex_between a b m3) ?_ ((PF.nf f1).trans (f2.trans (f3.trans ((PF.nf f4).trans (f5.trans (f6.trans f7)))))) (by omega) G7 (rp_between (hR.mono (fun x a1 a2 => keep x a2) kc (by omega)) (R2.mono (fun x a1 a2 => ?_) (fun x hx => ?_) (by omega)) (R5.mono (fun x a1 a2 => ?_) (fun x _ => by rw [r7', r6']) (Nat.le_refl _)) (by omega) ?_ ?_ (hp_up_same _ _ _) ?_) ⟨keep, kc, by omega, by omega, by omega, by omega⟩
    · rw [sp_betw, hr]
      show (if tk_g T L p2 = 1 then _ else _) = _
      rw [if_pos hg2, hr5]
    · rw [r7, hp_up_ne _ _ (by omega), r6, hp_up_ne _ _ (by omega), hp_up_ne _ _ (by omega), (g5.1 x (by omega)).1, (g5.1 x (by omega)).2, ej4, r3, hp_up_ne _ _ (by omega), hp_up_ne _ _ (by omega)]
      exact ⟨rfl, rfl⟩
    · rw [r7', r6', g5.2.1 x hx, ei4, r3']
    · rw [r7, hp_up_ne _ _ (by omega), r6, hp_up_ne _ _ (by omega), hp_up_ne _ _ (by omega)]
      exact ⟨rfl, rfl⟩
    · rw [hp_up_ne _ _ (by omega), (g5.1 n2 (by omega)).1, hp_up_same]
    · rw [r7, hp_up_same]
    · rw [r7, hp_up_ne _ _ (by omega), r6, hp_up_same]
end W
end Cond2
