/-! ===== CASE: its WHENs, and whole ===== -/
section Choice2
variable {z : State} {l : Launch} {σ : Hp} {ad : Nat → Nat} {op sg : Nat → Nat} {aO aS mO mS : Nat} {T : Nat → Int32} {L : Nat} {E k : Nat}
variable {X : PX}
theorem ch_loop (hp : PP z σ ad op sg aO aS mO mS L) (hB : RB z l σ ad op sg mt_P_expression [.ref (ad 16), .int (nI (k + 1)), .retAddr 0, .retAddr 0] E 40) (hX : RG z l σ ad op sg T L mt_P_expression [.ref (ad 16), .int (nI (k + 1)), .retAddr 0, .retAddr 0] E 40 (X (k + 1))) {d n0 : Nat} {Q : Outcome → Hp → Prop} : ∀ (f : Nat) (ps : List (Ex × Nat × Ex × Nat)) (w : Wd) (p ops n c : Nat) (ko : Nat → Nat) (j : Int32), ps.length + f = 19 → n + 1 ≤ tk_s T L p → GS ad op sg T L w p ops n c ko → PCa c ko (w.eJ 14) (w.eI 15) ps n0 n → Lk (w.eJ 14) (ca_us ps).reverse j →
    (∀ cs2 p2 o2, sp_whens T L X k f p ops = .ok (cs2, p2, o2) → ∀ w' n' c' ko' j' ps' v5, ca_ex ps' = ca_ex ps ++ cs2 → ps'.length ≤ 19 → PF w w' → ops ≤ o2 → n' + 1 ≤ tk_s T L p2 → GS ad op sg T L w' p2 o2 n' c' ko' → PCa c' ko' (w'.eJ 14) (w'.eI 15) ps' n0 n' → Lk (w'.eJ 14) (ca_us ps').reverse j' → (∀ x, x < n → x ∉ ca_us ps → ko' x = ko x ∧ w'.eJ 14 x = w.eJ 14 x) → (∀ x, x < c → w'.eI 15 x = w.eI 15 x) → n ≤ n' → c ≤ c' → n' + tk_s T L p ≤ n + tk_s T L p2 → c' + tk_s T L p ≤ c + tk_s T L p2 → Go z l mt_P_choice (d + E + 41) 17 [.ref (ad 16), .int (nI k), .int (nI (1 + 2 * ps'.length)), .int j', .int 0, .int v5, .retAddr 0] [] (ov σ ad 21 w') Q) →
    (∀ e, sp_whens T L X k f p ops = .error e → ∀ w', PF w w' → BS ad op sg w' e → Q (.returned none) (ov σ ad 21 w')) →
    Go z l mt_P_choice (d + E + 41) 17 [.ref (ad 16), .int (nI k), .int (nI (1 + 2 * ps.length)), .int j, .int 1, .int (nI ps.length), .retAddr 0] [] (ov σ ad 21 w) Q := by
  intro f
  have no : ∀ P : Prop, (1 : Int32) = 0 → P := fun P h => absurd h (by decide)
  have ne := sg_ne (i := 34) (j := 11) hp.2.1 (by decide) (by decide) (by decide)
  induction f with
  | zero =>
    intro ps w p ops n c ko j hf hn hG hP hL kok ker
    have h19 : (19 : Int32) ≤ nI ps.length := nI_le (a := 19) (by omega) (by omega)
    refine cs_P_choice_17 (d := d + E + 32) hp.1 hp.2.1 hG.1.1 hG.1.2.1 hG.2.2.2.1.2.2.2.1 (fun _ h => no _ h) (fun _ h => no _ h) (fun _ _ h => absurd hG.2.2.2.2.1 h) (fun _ _ h => absurd hG.2.2.2.2.1 h) (fun _ _ _ _ => ?_) (fun _ _ _ h => absurd h ne) (fun h => absurd h19 h) (fun h => absurd h19 h) (fun h => absurd h19 h) (fun h => absurd h19 h) (fun h => absurd h19 h) (fun h => absurd h19 h) (fun h => absurd h19 h)
    exact cb_add (d := d + E + 31) hp.1 hp.2.1 (hp.2.2.1 _ (by decide)) (by decide) (gs_break hG) (fun w1 v1 f1 B1 _ => gj_nextI (tc_174 hp B1 (fun w2 f2 B2 => ker _ rfl w2 ((pf_at _ _).trans (f1.trans f2)) B2)))
  | succ f ih =>
    intro ps w p ops n c ko j hf hn hG hP hL kok ker
    have h19 : ¬ (19 : Int32) ≤ nI ps.length := nI_ge (b := 19) (by omega) (by omega)
    have ht := tk_le (T := T) hG.2.2.2.2.2.2.2.2.2.2.1
    have hPle := hP.le
    refine cs_P_choice_17 (d := d + E + 32) hp.1 hp.2.1 hG.1.1 hG.1.2.1 hG.2.2.2.1.2.2.2.1 (fun h => absurd h h19) (fun h => absurd h h19) (fun h => absurd h h19) (fun h => absurd h h19) (fun h => absurd h h19) (fun h => absurd h h19) (fun _ h => no _ h) (fun _ h => no _ h) (fun _ h => no _ h) (fun _ h => no _ h) (fun _ h => no _ h) (fun _ h => no _ h) (fun _ _ => ?_)
    refine cg_take (d := d + E + 19) hp (by decide) hG (fun hg w1 f1 G1 _ => gj_nextV ?_) (fun hg w1 f1 B1 _ => gj_nextV (tc_36 hp B1 (fun w2 f2 B2 => ker _ (if_neg hg) w2 (f1.trans f2) B2) hB))
    have h1 := ht.2.2.2.1 (by rw [hg]; decide)
    have hle1 := ht.2.2.2.2.2.2.2
    have ej1 : w1.eJ 14 = w.eJ 14 := by rw [f1.2.2.2.2.1]
    have ei1 : w1.eI 15 = w.eI 15 := by rw [f1.2.2.2.1]
    refine cs_P_choice_36 (d := d + E + 32) hp.1 ?_
    rw [nI_1]
    refine hX d w1 _ _ n c ko _ G1 (fun w2 hPO _ => gj_nextV ?_)
    cases hr1 : X (k + 1) (tk_e T L p) ops with
    | error e =>
      rw [hr1] at hPO
      exact tc_43 hp hPO.2 (fun w3 f3 B3 => ker e (by rw [sp_whens, if_pos hg, hr1]) w3 ((PF.nf f1).trans (hPO.1.trans f3)) B3) hB
    | ok x =>
    obtain ⟨m1, p2, o2⟩ := x
    rw [hr1] at hPO
    obtain ⟨f2, ho2, n2, c2, ko2, G2, R2, g2⟩ := hPO
    have gg2 := g2.2.2
    have ht2 := tk_le (T := T) G2.2.2.2.2.2.2.2.2.2.2.1
    have R2lt := R2.1
    refine cs_P_choice_43 (d := d + E + 32) hp.1 hp.2.1 G2.1.2.1 (cg_addG (d := d + E + 31) hp (by decide) G2 (by omega) (fun w3 f3 G3 r3 r3' _ => gj_nextI (cs_P_choice_56 (d := d + E + 32) hp.1 hp.2.1 ?_)))
    refine cg_take (d := d + E + 19) hp (by decide) G3 (fun hg2 w4 f4 G4 _ => gj_nextV ?_) (fun hg2 w4 f4 B4 _ => gj_nextV (tc_65 hp B4 (fun w5 f5 B5 => ker _ (by
      rw [sp_whens, if_pos hg, hr1]
      exact if_neg hg2) w5 ((PF.nf f1).trans (f2.trans (f3.trans (f4.trans f5)))) B5) hB))
    have h2 := ht2.2.2.2.1 (by rw [hg2]; decide)
    have hle2 := ht2.2.2.2.2.2.2.2
    have ej4 : w4.eJ 14 = w3.eJ 14 := by rw [f4.2.2.2.2.1]
    have ei4 : w4.eI 15 = w3.eI 15 := by rw [f4.2.2.2.1]
    refine cs_P_choice_65 (d := d + E + 32) hp.1 ?_
    rw [nI_1]
    refine hX d w4 _ _ (n2 + 1) c2 _ _ G4 (fun w5 hPO5 _ => gj_nextV ?_)
    cases hr2 : X (k + 1) (tk_e T L p2) o2 with
    | error e =>
      rw [hr2] at hPO5
      exact tc_72 hp hPO5.2 (fun w6 f6 B6 => ker e (by
        rw [sp_whens, if_pos hg, hr1]
        show (if tk_g T L p2 = 10 then _ else _) = _
        rw [if_pos hg2, hr2]) w6 ((PF.nf f1).trans (f2.trans (f3.trans ((PF.nf f4).trans (hPO5.1.trans f6))))) B6)
    | ok y =>
    obtain ⟨m2, p4, o4⟩ := y
    rw [hr2] at hPO5
    obtain ⟨f5, ho5, n5, c5, ko5, G5, R5, g5⟩ := hPO5
    have gg5 := g5.2.2
    have R5lt := R5.1
    have h1000 := gs_1000 G5
    have ht5 := tk_le (T := T) G5.2.2.2.2.2.2.2.2.2.2.1
    refine cs_P_choice_72 (d := d + E + 32) hp.1 hp.2.1 G5.1.2.1 (cg_addG (d := d + E + 31) hp (by decide) G5 (by omega) (fun w6 f6 G6 r6 r6' _ => gj_nextI (cs_P_choice_84 (d := d + E + 32) hp.1 G6.1.2.1 ?_)))
    have hj6 : w6.eJ 14 n2 = -1 := by rw [r6, hp_up_ne _ _ (by omega), (g5.1 n2 (by omega)).2, ej4, r3, hp_up_same]
    refine cg_aim1 (d := d + E + 31) hp G6 (by omega) hj6 (by omega) (fun w7 f7 G7 r7 r7' _ => gj_nextV ?_)
    have F7 : PF w w7 := (PF.nf f1).trans (f2.trans (f3.trans ((PF.nf f4).trans (f5.trans (f6.trans f7)))))
    -- rows of w7
    have keep7 : ∀ x, x < n → va_up ko5 n5 12 x = ko x ∧ w7.eJ 14 x = w.eJ 14 x := fun x hx => by
      rw [r7, hp_up_ne _ _ (by omega), r6, hp_up_ne _ _ (by omega), hp_up_ne _ _ (by omega), (g5.1 x (by omega)).1, (g5.1 x (by omega)).2, ej4, r3, hp_up_ne _ _ (by omega), hp_up_ne _ _ (by omega), (g2.1 x hx).1, (g2.1 x hx).2, ej1]
      exact ⟨rfl, rfl⟩
    have kc7 : ∀ x, x < c → w7.eI 15 x = w.eI 15 x := fun x hx => by rw [r7', r6', g5.2.1 x (by omega), ei4, r3', g2.2.1 x hx, ei1]
    have P7 : PCa c5 (va_up ko5 n5 12) (w7.eJ 14) (w7.eI 15) (ps ++ [(m1, n2, m2, n5)]) n0 (n5 + 1) := by
      refine pc_add (hP.mono kc7 (by omega) (fun x a1 a2 => (keep7 x a2).1) (fun x a1 a2 _ => (keep7 x a2).2)) (R2.mono (fun x a1 a2 => ?_) (fun x hx => ?_) (by omega)) ?_ ?_ (R5.mono (fun x a1 a2 => ?_) (fun x hx => ?_) (Nat.le_refl _)) (hp_up_same _ _ _)
      · rw [r7, hp_up_ne _ _ (by omega), r6, hp_up_ne _ _ (by omega), hp_up_ne _ _ (by omega), (g5.1 x (by omega)).1, (g5.1 x (by omega)).2, ej4, r3, hp_up_ne _ _ (by omega), hp_up_ne _ _ (by omega)]
        exact ⟨rfl, rfl⟩
      · rw [r7', r6', g5.2.1 x hx, ei4, r3']
      · rw [hp_up_ne _ _ (by omega), (g5.1 n2 (by omega)).1, hp_up_same]
      · rw [r7, hp_up_same]
      · rw [r7, hp_up_ne _ _ (by omega), r6, hp_up_ne _ _ (by omega), hp_up_ne _ _ (by omega)]
        exact ⟨rfl, rfl⟩
      · rw [r7', r6']
    have us7 : (ca_us (ps ++ [(m1, n2, m2, n5)])).reverse = n5 :: (ca_us ps).reverse := by
      unfold ca_us
      rw [List.map_append, List.reverse_append]
      rfl
    have hin : ∀ q ∈ (ca_us ps).reverse, n0 ≤ q ∧ q < n := fun q hq => pc_lo hP q (List.mem_reverse.mp hq)
    have L7 : Lk (w7.eJ 14) (ca_us (ps ++ [(m1, n2, m2, n5)])).reverse (nI n5) := by
      rw [us7]
      refine ⟨rfl, fun x hx => by have := hin x hx; omega, ?_⟩
      have e9 : (w7.eJ 14 n5).toInt32 = j := by rw [r7, hp_up_ne _ _ (by omega), r6, hp_up_same, i64_32]
      rw [e9]
      exact hL.mono (fun q hq => by
        have := hin q hq
        exact (keep7 q (by omega)).2)
    have len7 : (ps ++ [(m1, n2, m2, n5)]).length = ps.length + 1 := by rw [List.length_append]; rfl
    have ex7 : ca_ex (ps ++ [(m1, n2, m2, n5)]) = ca_ex ps ++ [(m1, m2)] := by
      unfold ca_ex
      rw [List.map_append]
      rfl
    have ev2 : nI (1 + 2 * ps.length) + 2 = nI (1 + 2 * (ps.length + 1)) := by
      rw [show 1 + 2 * (ps.length + 1) = (1 + 2 * ps.length) + 2 by omega]
      exact pk_add
    have es : sp_whens T L X k (f + 1) p ops = if tk_g T L p4 = 9 then (match sp_whens T L X k f p4 o4 with
        | .error e => .error e
        | .ok (cs, p3, o3) => .ok ((m1, m2) :: cs, p3, o3)) else .ok ([(m1, m2)], p4, o4) := by
      rw [sp_whens, if_pos hg, hr1]
      show (if tk_g T L p2 = 10 then _ else _) = _
      rw [if_pos hg2, hr2]
      rfl
    refine cs_P_choice_95 (d := d + E + 32) hp.1 hp.2.1 G7.1.1 G7.2.2.2.1.2.2.2.1 (fun h => go_drop 6 ?_) (fun h => go_drop 6 ?_)
    · have hg9 : ¬ tk_g T L p4 = 9 := fun q => h (by rw [q])
      rw [ev2]
      have := kok [(m1, m2)] p4 o4 (by rw [es, if_neg hg9]) w7 (n5 + 1) c5 _ (nI n5) _ (nI ps.length + 1) ex7 (by omega) F7 (by omega) (by omega) G7 P7 L7 (fun x hx _ => keep7 x hx) kc7 (by omega) (by omega) (by omega) (by omega)
      rw [len7] at this
      exact this
    · have hg9 : tk_g T L p4 = 9 := sg_inj hp.2.1 G7.g (by decide) h
      rw [ev2, nI_1]
      have := ih (ps ++ [(m1, n2, m2, n5)]) w7 p4 o4 (n5 + 1) c5 _ (nI n5) (by omega) (by omega) G7 P7 L7 (fun cs2 p3 o3 hs w' n' c' ko' j' ps' v5 hx hl hf' ho' hn' hG' hP' hL' kr kc hnn hcc hgn hgc => ?_) (fun e hs w' hf' hB' => ker e (by rw [es, if_pos hg9, hs]) w' (F7.trans hf') hB')
      · rw [len7] at this
        exact this
      · refine kok ((m1, m2) :: cs2) p3 o3 (by rw [es, if_pos hg9, hs]) w' n' c' ko' j' ps' v5 (by rw [hx, ex7, List.append_assoc]; rfl) hl (F7.trans hf') (by omega) hn' hG' hP' hL' (fun x hx hm => ?_) (fun x hx => (kc x (by omega)).trans (kc7 x hx)) (by omega) (by omega) (by omega) (by omega)
        have hm7 : x ∉ ca_us (ps ++ [(m1, n2, m2, n5)]) := fun q => by
          rw [← List.mem_reverse, us7] at q
          rcases List.mem_cons.mp q with q | q
          · omega
          · exact hm (List.mem_reverse.mp q)
        rw [(kr x (by omega) hm7).1, (kr x (by omega) hm7).2]
        exact keep7 x hx
theorem rg_choice (hp : PP z σ ad op sg aO aS mO mS L) (hB : RB z l σ ad op sg mt_P_expression [.ref (ad 16), .int (nI (k + 1)), .retAddr 0, .retAddr 0] E 40) (hX : RG z l σ ad op sg T L mt_P_expression [.ref (ad 16), .int (nI (k + 1)), .retAddr 0, .retAddr 0] E 40 (X (k + 1))) {d : Nat} {w : Wd} {p ops n c : Nat} {ko : Nat → Nat} {Q : Outcome → Hp → Prop} (hG : GS ad op sg T L w p ops n c ko) (hg : tk_g T L p = 8) (kk : ∀ w', PO ad op sg T L w p ops n n c ko (sp_case T L X k p ops) w' → Q (.returned none) (ov σ ad 21 w')) : Go z l mt_P_choice (d + E + 41) 0 [.ref (ad 16), .int (nI k), .retAddr 0, .retAddr 0, .retAddr 0, .retAddr 0, .retAddr 0] [] (ov σ ad 21 w) Q := by
  have ht := tk_le (T := T) hG.2.2.2.2.2.2.2.2.2.2.1
  have h1 := ht.2.2.2.1 (by rw [hg]; decide)
  have hle := ht.2.2.2.2.2.2.2
  have nle : n ≤ tk_s T L p := hG.2.2.2.2.2.2.2.2.1
  refine cs_P_choice (d := d + E + 32) hp.1 hG.1.1 (cg_next (d := d + E + 20) hp hG (fun w1 f1 G1 _ => gj_nextV (cs_P_choice_7 (d := d + E + 32) hp.1 ?_)))
  have ej1 : w1.eJ 14 = w.eJ 14 := by rw [f1.2.2.2.2.1]
  have ei1 : w1.eI 15 = w.eI 15 := by rw [f1.2.2.2.1]
  refine ch_loop hp hB hX (n0 := n) 19 [] w1 (tk_e T L p) ops n c ko (-1) rfl (by omega) G1 rfl rfl (fun cs p2 o2 hs w2 n2 c2 ko2 j2 ps2 v5 hx hl f2 ho hn2 G2 P2 L2 kr kc hnn hcc hgn hgc => ?_) (fun e hs w2 f2 B2 => kk w2 (po_err (by rw [sp_case, hs]) ((PF.nf f1).trans f2) B2))
  have hx' : ca_ex ps2 = cs := hx
  have es : sp_case T L X k p ops = match sp_else T L X k p2 o2 with
      | .error e => .error e
      | .ok (me, p3, o3) => sp_take T L 12 (ex_case (ca_ex ps2) me) p3 o3 := by
    rw [sp_case, hs, hx']
    rfl
  refine ch_else hp hB hX (n0 := n) hl G2 hn2 P2 L2 (fun me p3 o3 he h12 hpl w3 n3 c3 ko3 f3 ho3 G3 R3 k3 kc3 hn3 hc3 hgn3 hgc3 => kk w3 (po_ok (m := ex_case (ca_ex ps2) me) (p' := tk_e T L p3) (o' := o3) ?_ ((PF.nf f1).trans (f2.trans f3)) (by omega) G3 R3 ⟨fun x hx => ?_, fun x hx => ?_, by omega, by omega, ?_, ?_⟩)) (fun e he w3 f3 B3 => kk w3 (po_err (by rw [es]; exact he) ((PF.nf f1).trans (f2.trans f3)) B3))
  · rw [es, he]
    exact if_pos h12
  · rw [(k3 x hx).1, (k3 x hx).2, (kr x hx List.not_mem_nil).1, (kr x hx List.not_mem_nil).2, ej1]
    exact ⟨rfl, rfl⟩
  · rw [kc3 x (by omega), kc x hx, ei1]
  · have ht3 : tk_s T L p3 + 1 ≤ tk_e T L p3 ∧ tk_e T L p3 ≤ tk_s T L (tk_e T L p3) := by
      have := tk_le (T := T) hpl
      exact ⟨this.2.2.2.1 (by rw [h12]; decide), this.2.2.2.2.2.2.2⟩
    omega
  · have ht3 : tk_s T L p3 + 1 ≤ tk_e T L p3 ∧ tk_e T L p3 ≤ tk_s T L (tk_e T L p3) := by
      have := tk_le (T := T) hpl
      exact ⟨this.2.2.2.1 (by rw [h12]; decide), this.2.2.2.2.2.2.2⟩
    omega
end Choice2
