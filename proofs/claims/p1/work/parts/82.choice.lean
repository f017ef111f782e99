/-! ===== CASE ===== -/
section Choice
variable {z : State} {l : Launch} {σ : Hp} {ad : Nat → Nat} {op sg : Nat → Nat} {aO aS mO mS : Nat} {T : Nat → Int32} {L : Nat} {E k : Nat}
section ChB
variable {d e : Nat} {w : Wd} {v2 v3 v4 v5 v6 : Int32} {Q : Outcome → Hp → Prop}
theorem tc_182 (hp : PP z σ ad op sg aO aS mO mS L) (hW : BS ad op sg w e) (kk : ∀ w', PF w w' → BS ad op sg w' e → Q (.returned none) (ov σ ad 21 w')) : Go z l mt_P_choice (d + E + 41) 182 [.ref (ad 16), .int (nI k), .int v2, .int v3, .int v4, .int v5, .retAddr 0] [] (ov σ ad 21 w) Q := by
  obtain ⟨-, -, -, n0, ko0, b4, -, -⟩ := id hW
  refine cs_P_choice_182 (d := d + E + 32) hp.1 hp.2.1 b4.2.1 (cb_add (d := d + E + 31) hp.1 hp.2.1 (hp.2.2.1 _ (by decide)) (by decide) hW (fun w1 v1 f1 B1 _ => gj_nextI ?_))
  exact cs_P_choice_199 (d := d + E + 32) hp.1 (cb_aim (d := d + E + 31) hp.1 B1 (fun w2 f2 B2 _ => gj_nextV (cs_P_choice_202 (d := d + E + 32) hp.1 (kk w2 (f1.trans f2) B2))))
theorem tc_160 (hp : PP z σ ad op sg aO aS mO mS L) (hW : BS ad op sg w e) (kk : ∀ w', PF w w' → BS ad op sg w' e → Q (.returned none) (ov σ ad 21 w')) : Go z l mt_P_choice (d + E + 41) 160 [.ref (ad 16), .int (nI k), .int v2, .int v3, .int v4, .int v5, .retAddr 0] [] (ov σ ad 21 w) Q :=
  cs_P_choice_160 (d := d + E + 32) hp.1 hp.2.1 (cb_take (d := d + E + 31) hp (by decide) hW (fun w1 f1 B1 _ => gj_nextV (tc_182 hp B1 (fun w2 f2 B2 => kk w2 (f1.trans f2) B2))))
theorem tc_174 (hp : PP z σ ad op sg aO aS mO mS L) (hW : BS ad op sg w e) (kk : ∀ w', PF w w' → BS ad op sg w' e → Q (.returned none) (ov σ ad 21 w')) {s0 : Int32} : Go z l mt_P_choice (d + E + 41) 174 [.ref (ad 16), .int (nI k), .int v2, .int v3, .int v4, .int v5, .retAddr 0] [.int s0] (ov σ ad 21 w) Q :=
  cs_P_choice_174 (d := d + E + 32) hp.1 hp.2.1 (cb_take (d := d + E + 31) hp (by decide) hW (fun w1 f1 B1 _ => gj_nextV (tc_182 hp B1 (fun w2 f2 B2 => kk w2 (f1.trans f2) B2))))
theorem tc_17 (hp : PP z σ ad op sg aO aS mO mS L) (hW : BS ad op sg w e) (kk : ∀ w', PF w w' → BS ad op sg w' e → Q (.returned none) (ov σ ad 21 w')) (h4 : v4 = 0) : Go z l mt_P_choice (d + E + 41) 17 [.ref (ad 16), .int (nI k), .int v2, .int v3, .int v4, .int v5, .retAddr 0] [] (ov σ ad 21 w) Q := by
  obtain ⟨b1, b2, b3, n0, ko0, b4, -, -⟩ := id hW
  have ne := sg_ne (i := 34) (j := 11) hp.2.1 (by decide) (by decide) (by decide)
  have nul : Go z l mt_G_add (d + E + 40) 0 [.ref (ad 12), .ref (op 4), .long 0, .retAddr 0] [] (ov σ ad 21 w) (fun o σ1 => hp_Le (ov σ ad 21 w) σ1 → gj_next z l mt_P_choice (d + E + 41) 171 [.ref (ad 16), .int (nI k), .int v2, .int v3, .int v4, .int v5, .retAddr 0] [] Q o σ1) :=
    cb_add (d := d + E + 31) hp.1 hp.2.1 (hp.2.2.1 _ (by decide)) (by decide) hW (fun w1 v1 f1 B1 _ => gj_nextI (tc_174 hp B1 (fun w2 f2 B2 => kk w2 (f1.trans f2) B2)))
  exact cs_P_choice_17 (d := d + E + 32) hp.1 hp.2.1 b4.1 b4.2.1 b1 (fun _ _ _ => nul) (fun _ _ h => absurd h ne) (fun _ h => absurd h4 h) (fun _ h => absurd h4 h) (fun _ h => absurd h4 h) (fun _ h => absurd h4 h) (fun _ _ _ _ => nul) (fun _ _ _ h => absurd h ne) (fun _ _ h => absurd h4 h) (fun _ _ h => absurd h4 h) (fun _ _ h => absurd h4 h) (fun _ _ h => absurd h4 h) (fun _ h => absurd h4 h)
theorem tc_95 (hp : PP z σ ad op sg aO aS mO mS L) (hW : BS ad op sg w e) (kk : ∀ w', PF w w' → BS ad op sg w' e → Q (.returned none) (ov σ ad 21 w')) : Go z l mt_P_choice (d + E + 41) 95 [.ref (ad 16), .int (nI k), .int v2, .int v3, .int v4, .int v5, .int v6] [] (ov σ ad 21 w) Q := by
  obtain ⟨b1, b2, b3, n0, ko0, b4, -, -⟩ := id hW
  exact cs_P_choice_95 (d := d + E + 32) hp.1 hp.2.1 b4.1 b1 (fun _ => go_drop 6 (tc_17 hp hW kk rfl)) (fun h => absurd h (sg_ne hp.2.1 (by decide) (by decide) (by decide)))
theorem tc_72 (hp : PP z σ ad op sg aO aS mO mS L) (hW : BS ad op sg w e) (kk : ∀ w', PF w w' → BS ad op sg w' e → Q (.returned none) (ov σ ad 21 w')) : Go z l mt_P_choice (d + E + 41) 72 [.ref (ad 16), .int (nI k), .int v2, .int v3, .int v4, .int v5, .int v6] [] (ov σ ad 21 w) Q := by
  obtain ⟨b1, b2, b3, n0, ko0, b4, -, -⟩ := id hW
  refine cs_P_choice_72 (d := d + E + 32) hp.1 hp.2.1 b4.2.1 (cb_add (d := d + E + 31) hp.1 hp.2.1 (hp.2.2.1 _ (by decide)) (by decide) hW (fun w1 v1 f1 B1 _ => gj_nextI ?_))
  obtain ⟨-, -, -, n1, ko1, c4, -, -⟩ := id B1
  exact cs_P_choice_84 (d := d + E + 32) hp.1 c4.2.1 (cb_aim (d := d + E + 31) hp.1 B1 (fun w2 f2 B2 _ => gj_nextV (tc_95 hp B2 (fun w3 f3 B3 => kk w3 (f1.trans (f2.trans f3)) B3))))
theorem tc_153 (hp : PP z σ ad op sg aO aS mO mS L) (hW : BS ad op sg w e) (kk : ∀ w', PF w w' → BS ad op sg w' e → Q (.returned none) (ov σ ad 21 w')) (hB : RB z l σ ad op sg mt_P_expression [.ref (ad 16), .int (nI (k + 1)), .retAddr 0, .retAddr 0] E 40) : Go z l mt_P_choice (d + E + 41) 153 [.ref (ad 16), .int (nI k), .int v2, .int v3, .int v4, .int v5, .retAddr 0] [] (ov σ ad 21 w) Q := by
  refine cs_P_choice_153 (d := d + E + 32) hp.1 ?_
  rw [nI_1]
  exact hB d w e _ hW (fun w1 f1 B1 _ => gj_nextV (tc_160 hp B1 (fun w2 f2 B2 => kk w2 (f1.trans f2) B2)))
theorem tc_65 (hp : PP z σ ad op sg aO aS mO mS L) (hW : BS ad op sg w e) (kk : ∀ w', PF w w' → BS ad op sg w' e → Q (.returned none) (ov σ ad 21 w')) (hB : RB z l σ ad op sg mt_P_expression [.ref (ad 16), .int (nI (k + 1)), .retAddr 0, .retAddr 0] E 40) : Go z l mt_P_choice (d + E + 41) 65 [.ref (ad 16), .int (nI k), .int v2, .int v3, .int v4, .int v5, .int v6] [] (ov σ ad 21 w) Q := by
  refine cs_P_choice_65 (d := d + E + 32) hp.1 ?_
  rw [nI_1]
  exact hB d w e _ hW (fun w1 f1 B1 _ => gj_nextV (tc_72 hp B1 (fun w2 f2 B2 => kk w2 (f1.trans f2) B2)))
theorem tc_43 (hp : PP z σ ad op sg aO aS mO mS L) (hW : BS ad op sg w e) (kk : ∀ w', PF w w' → BS ad op sg w' e → Q (.returned none) (ov σ ad 21 w')) (hB : RB z l σ ad op sg mt_P_expression [.ref (ad 16), .int (nI (k + 1)), .retAddr 0, .retAddr 0] E 40) : Go z l mt_P_choice (d + E + 41) 43 [.ref (ad 16), .int (nI k), .int v2, .int v3, .int v4, .int v5, .retAddr 0] [] (ov σ ad 21 w) Q := by
  obtain ⟨b1, b2, b3, n0, ko0, b4, -, -⟩ := id hW
  refine cs_P_choice_43 (d := d + E + 32) hp.1 hp.2.1 b4.2.1 (cb_add (d := d + E + 31) hp.1 hp.2.1 (hp.2.2.1 _ (by decide)) (by decide) hW (fun w1 v1 f1 B1 _ => gj_nextI ?_))
  exact cs_P_choice_56 (d := d + E + 32) hp.1 hp.2.1 (cb_take (d := d + E + 31) hp (by decide) B1 (fun w2 f2 B2 _ => gj_nextV (tc_65 hp B2 (fun w3 f3 B3 => kk w3 (f1.trans (f2.trans f3)) B3) hB)))
theorem tc_36 (hp : PP z σ ad op sg aO aS mO mS L) (hW : BS ad op sg w e) (kk : ∀ w', PF w w' → BS ad op sg w' e → Q (.returned none) (ov σ ad 21 w')) (hB : RB z l σ ad op sg mt_P_expression [.ref (ad 16), .int (nI (k + 1)), .retAddr 0, .retAddr 0] E 40) : Go z l mt_P_choice (d + E + 41) 36 [.ref (ad 16), .int (nI k), .int v2, .int v3, .int v4, .int v5, .retAddr 0] [] (ov σ ad 21 w) Q := by
  refine cs_P_choice_36 (d := d + E + 32) hp.1 ?_
  rw [nI_1]
  exact hB d w e _ hW (fun w1 f1 B1 _ => gj_nextV (tc_43 hp B1 (fun w2 f2 B2 => kk w2 (f1.trans f2) B2) hB))
end ChB
section ChG
variable {X : PX}
/-- behind the ELSE part (or the NULL for it): END, the step CASE -/
theorem ch_end (hp : PP z σ ad op sg aO aS mO mS L) (hB : RB z l σ ad op sg mt_P_expression [.ref (ad 16), .int (nI (k + 1)), .retAddr 0, .retAddr 0] E 40) (hX : RG z l σ ad op sg T L mt_P_expression [.ref (ad 16), .int (nI (k + 1)), .retAddr 0, .retAddr 0] E 40 (X (k + 1))) {d n0 : Nat} {w : Wd} {p ops n c pe : Nat} {ko : Nat → Nat} {ps : List (Ex × Nat × Ex × Nat)} {me : Ex} {j v4 v5 : Int32} {Q : Outcome → Hp → Prop} (hl : ps.length ≤ 19) (hG : GS ad op sg T L w p ops n c ko) (hP : PCa c ko (w.eJ 14) (w.eI 15) ps n0 pe) (hL : Lk (w.eJ 14) (ca_us ps).reverse j) (hR : Rep me pe n c ko (w.eJ 14) (w.eI 15))
    (ky : tk_g T L p = 12 → ∀ w' ko', PF w w' → GS ad op sg T L w' (tk_e T L p) ops (n + 1) c ko' → Rep (ex_case (ca_ex ps) me) n0 (n + 1) c ko' (w'.eJ 14) (w'.eI 15) → (∀ x, x < n0 → ko' x = ko x ∧ w'.eJ 14 x = w.eJ 14 x) → w'.eI 15 = w.eI 15 → Q (.returned none) (ov σ ad 21 w'))
    (kn : ¬ tk_g T L p = 12 → ∀ w', PF w w' → BS ad op sg w' (tk_s T L p) → Q (.returned none) (ov σ ad 21 w')) :
    Go z l mt_P_take (d + E + 40) 0 [.ref (ad 16), .ref (sg 12)] [] (ov σ ad 21 w) (fun o σ1 => hp_Le (ov σ ad 21 w) σ1 → gj_next z l mt_P_choice (d + E + 41) 179 [.ref (ad 16), .int (nI k), .int (nI (1 + 2 * ps.length)), .int j, .int v4, .int v5, .retAddr 0] [] Q o σ1) := by
  have ht := tk_le (T := T) hG.2.2.2.2.2.2.2.2.2.2.1
  have nle : n ≤ tk_s T L p := hG.2.2.2.2.2.2.2.2.1
  have h1000 := gs_1000 hG
  have hlo := pc_lo hP
  have hle := hP.le
  have hre := hR.1
  refine cg_take (d := d + E + 19) hp (by decide) hG (fun hg w1 f1 G1 _ => gj_nextV ?_) (fun hg w1 f1 B1 _ => gj_nextV (tc_182 hp B1 (fun w2 f2 B2 => kn hg w2 (f1.trans f2) B2)))
  have h1 := ht.2.2.2.1 (by rw [hg]; decide)
  have ej : w1.eJ 14 = w.eJ 14 := by rw [f1.2.2.2.2.1]
  have ei : w1.eI 15 = w.eI 15 := by rw [f1.2.2.2.1]
  refine cs_P_choice_182 (d := d + E + 32) hp.1 hp.2.1 G1.1.2.1 (cg_addG (d := d + E + 31) hp (by decide) G1 (by omega) (fun w2 f2 G2 r1 r2 _ => gj_nextI ?_))
  rw [lN_ofI (by omega)] at r1
  have hin : ∀ q ∈ (ca_us ps).reverse, n0 ≤ q ∧ q < pe := fun q hq => hlo q (List.mem_reverse.mp hq)
  have hLk : Lk (w2.eJ 14) (ca_us ps).reverse j := hL.mono (fun q hq => by
    have := hin q hq
    rw [r1, hp_up_ne _ _ (by omega), ej])
  have hlen : (ca_us ps).reverse.length ≤ n + 1 := by
    rw [List.length_reverse]
    have : ∀ (ps : List (Ex × Nat × Ex × Nat)) (a : Nat), PCa c ko (w.eJ 14) (w.eI 15) ps a pe → (ca_us ps).length ≤ pe - a := by
      intro ps
      induction ps with
      | nil => intro a _; exact Nat.zero_le _
      | cons x r ih =>
        intro a h
        obtain ⟨m1, q, m2, u⟩ := x
        have h1 := h.1.1
        have h2 := h.2.2.2.1.1
        have h3 := h.2.2.2.2.2.le
        have h4 := ih (u + 1) h.2.2.2.2.2
        show (ca_us r).length + 1 ≤ pe - a
        omega
    have := this ps n0 hP
    omega
  refine cs_P_choice_199 (d := d + E + 32) hp.1 (cg_aimL (d := d + E + 31) hp (by omega) G2 hLk (fun q hq => by have := hin q hq; omega) hlen (fun w3 f3 G3 r3 r4 _ => gj_nextV (cs_P_choice_202 (d := d + E + 32) hp.1 (ky hg w3 _ ((PF.nf f1).trans (f2.trans f3)) G3 ?_ (fun x hx => ?_) (r4.trans (r2.trans ei))))))
  · have hkeep : ∀ x, x < n → x ∉ ca_us ps → va_up ko n 34 x = ko x ∧ w3.eJ 14 x = w.eJ 14 x := fun x hx hm => by
      rw [r3 x, if_neg (fun q => hm (List.mem_reverse.mp q)), r1, hp_up_ne _ _ (by omega), hp_up_ne _ _ (by omega), ej]
      exact ⟨rfl, rfl⟩
    have hei : ∀ x, x < c → w3.eI 15 x = w.eI 15 x := fun x _ => by rw [r4, r2, ei]
    refine rp_case (hP.mono hei (Nat.le_refl _) (fun x a1 a2 => hp_up_ne _ _ (by omega)) (fun x a1 a2 hm => (hkeep x (by omega) hm).2)) (hR.mono (fun x a1 a2 => hkeep x a2 (fun hm => ?_)) hei (Nat.le_refl _)) (fun x hx => ?_) (by omega) (hp_up_same _ _ _) ?_
    · have := hlo x hm
      omega
    · rw [r3 x, if_pos (List.mem_reverse.mpr hx)]
    · rw [r3 n, if_neg (fun q => by have := hin n q; omega), r1, hp_up_same]
  · rw [r3 x, if_neg (fun q => by have := hin x q; omega), r1, hp_up_ne _ _ (by omega), hp_up_ne _ _ (by omega), ej]
    exact ⟨rfl, rfl⟩
/-- the WHENs are done: ELSE or not -/
theorem ch_else (hp : PP z σ ad op sg aO aS mO mS L) (hB : RB z l σ ad op sg mt_P_expression [.ref (ad 16), .int (nI (k + 1)), .retAddr 0, .retAddr 0] E 40) (hX : RG z l σ ad op sg T L mt_P_expression [.ref (ad 16), .int (nI (k + 1)), .retAddr 0, .retAddr 0] E 40 (X (k + 1))) {d n0 : Nat} {w : Wd} {p ops n c : Nat} {ko : Nat → Nat} {ps : List (Ex × Nat × Ex × Nat)} {j v5 : Int32} {Q : Outcome → Hp → Prop} (hl : ps.length ≤ 19) (hG : GS ad op sg T L w p ops n c ko) (hn : n + 1 ≤ tk_s T L p) (hP : PCa c ko (w.eJ 14) (w.eI 15) ps n0 n) (hL : Lk (w.eJ 14) (ca_us ps).reverse j)
    (ky : ∀ me p3 o3, sp_else T L X k p ops = .ok (me, p3, o3) → tk_g T L p3 = 12 → p3 ≤ L → ∀ w' n' c' ko', PF w w' → ops ≤ o3 → GS ad op sg T L w' (tk_e T L p3) o3 (n' + 1) c' ko' → Rep (ex_case (ca_ex ps) me) n0 (n' + 1) c' ko' (w'.eJ 14) (w'.eI 15) → (∀ x, x < n0 → ko' x = ko x ∧ w'.eJ 14 x = w.eJ 14 x) → (∀ x, x < c → w'.eI 15 x = w.eI 15 x) → n ≤ n' → c ≤ c' → n' + tk_s T L p ≤ n + tk_s T L p3 + 1 → c' + tk_s T L p ≤ c + tk_s T L p3 → Q (.returned none) (ov σ ad 21 w'))
    (kn : ∀ e, (match sp_else T L X k p ops with
      | .error e => .error e
      | .ok (me, p3, o3) => sp_take T L 12 (ex_case (ca_ex ps) me) p3 o3) = Except.error (α := Ex × Nat × Nat) e → ∀ w', PF w w' → BS ad op sg w' e → Q (.returned none) (ov σ ad 21 w')) :
    Go z l mt_P_choice (d + E + 41) 17 [.ref (ad 16), .int (nI k), .int (nI (1 + 2 * ps.length)), .int j, .int 0, .int v5, .retAddr 0] [] (ov σ ad 21 w) Q := by
  have h1000 := gs_1000 hG
  have hle := hP.le
  have no : ∀ P : Prop, ¬ (0 : Int32) = 0 → P := fun P h => absurd rfl h
  have nul : ¬ tk_g T L p = 11 → Go z l mt_G_add (d + E + 40) 0 [.ref (ad 12), .ref (op 4), .long 0, .retAddr 0] [] (ov σ ad 21 w) (fun o σ1 => hp_Le (ov σ ad 21 w) σ1 → gj_next z l mt_P_choice (d + E + 41) 171 [.ref (ad 16), .int (nI k), .int (nI (1 + 2 * ps.length)), .int j, .int 0, .int v5, .retAddr 0] [] Q o σ1) := fun hg => by
    have es : sp_else T L X k p ops = .ok (ex_null, p, ops) := if_neg hg
    rw [es] at kn
    refine cg_addG (d := d + E + 31) hp (by decide) hG hn (fun w1 f1 G1 r1 r2 _ => gj_nextI (cs_P_choice_174 (d := d + E + 32) hp.1 hp.2.1 ?_))
    have keep1 : ∀ x, x < n → va_up ko n 4 x = ko x ∧ w1.eJ 14 x = w.eJ 14 x := fun x hx => by
      rw [r1, hp_up_ne _ _ (by omega), hp_up_ne _ _ (by omega)]
      exact ⟨rfl, rfl⟩
    refine ch_end hp hB hX (n0 := n0) (pe := n) (me := ex_null) hl G1 (hP.mono (fun x _ => by rw [r2]) (Nat.le_refl _) (fun x a1 a2 => (keep1 x a2).1) (fun x a1 a2 _ => (keep1 x a2).2)) (hL.mono (fun q hq => (keep1 q (pc_lo hP q (List.mem_reverse.mp hq)).2).2)) (rp_null (hp_up_same _ _ _)) (fun h12 w2 ko2 f2 G2 R2 k2 r3 => ?_) (fun h12 w2 f2 B2 => kn _ (if_neg h12) w2 (f1.trans f2) B2)
    refine ky ex_null p ops es h12 hG.2.2.2.2.2.2.2.2.2.2.1 w2 (n + 1) c ko2 (f1.trans f2) (Nat.le_refl _) G2 R2 (fun x hx => ?_) (fun x _ => by rw [r3, r2]) (by omega) (Nat.le_refl _) (by omega) (by omega)
    rw [(k2 x hx).1, (k2 x hx).2]
    exact keep1 x (by omega)
  have els : tk_g T L p = 11 → Go z l mt_S_next (d + E + 40) 0 [.ref (ad 17), .retAddr 0] [] (ov σ ad 21 w) (fun o σ1 => hp_Le (ov σ ad 21 w) σ1 → gj_next z l mt_P_choice (d + E + 41) 150 [.ref (ad 16), .int (nI k), .int (nI (1 + 2 * ps.length)), .int j, .int 0, .int v5, .retAddr 0] [] Q o σ1) := fun hg => by
    have ht := tk_le (T := T) hG.2.2.2.2.2.2.2.2.2.2.1
    have h1 := ht.2.2.2.1 (by rw [hg]; decide)
    have es : sp_else T L X k p ops = X (k + 1) (tk_e T L p) ops := if_pos hg
    refine cg_next (d := d + E + 20) hp hG (fun w1 f1 G1 _ => gj_nextV (cs_P_choice_153 (d := d + E + 32) hp.1 ?_))
    rw [nI_1]
    have ej : w1.eJ 14 = w.eJ 14 := by rw [f1.2.2.2.2.1]
    have ei : w1.eI 15 = w.eI 15 := by rw [f1.2.2.2.1]
    refine hX d w1 _ _ n c ko _ G1 (fun w2 hPO _ => gj_nextV ?_)
    cases hr : X (k + 1) (tk_e T L p) ops with
    | error e =>
      rw [hr] at hPO es
      rw [es] at kn
      exact tc_160 hp hPO.2 (fun w3 f3 B3 => kn e rfl w3 ((PF.nf f1).trans (hPO.1.trans f3)) B3)
    | ok x =>
      obtain ⟨me, p3, o3⟩ := x
      rw [hr] at hPO es
      rw [es] at kn
      obtain ⟨f2, ho, n2, c2, ko2, G2, R2, g2⟩ := hPO
      have gg := g2.2.2
      have keep2 : ∀ x, x < n → ko2 x = ko x ∧ w2.eJ 14 x = w.eJ 14 x := fun x hx => ⟨(g2.1 x hx).1, by rw [(g2.1 x hx).2, ej]⟩
      have kc2 : ∀ x, x < c → w2.eI 15 x = w.eI 15 x := fun x hx => by rw [g2.2.1 x hx, ei]
      refine cs_P_choice_160 (d := d + E + 32) hp.1 hp.2.1 (ch_end hp hB hX (n0 := n0) (pe := n) (me := me) hl G2 (hP.mono kc2 (by omega) (fun x a1 a2 => (keep2 x a2).1) (fun x a1 a2 _ => (keep2 x a2).2)) (hL.mono (fun q hq => (keep2 q (pc_lo hP q (List.mem_reverse.mp hq)).2).2)) R2 (fun h12 w3 ko3 f3 G3 R3 k3 r3 => ?_) (fun h12 w3 f3 B3 => kn _ (if_neg h12) w3 ((PF.nf f1).trans (f2.trans f3)) B3))
      refine ky me p3 o3 es h12 G2.2.2.2.2.2.2.2.2.2.2.1 w3 n2 c2 ko3 ((PF.nf f1).trans (f2.trans f3)) ho G3 R3 (fun x hx => ?_) (fun x hx => by rw [r3]; exact kc2 x hx) (by omega) (by omega) (by omega) (by omega)
      rw [(k3 x hx).1, (k3 x hx).2]
      exact keep2 x (by omega)
  exact cs_P_choice_17 (d := d + E + 32) hp.1 hp.2.1 hG.1.1 hG.1.2.1 hG.2.2.2.1.2.2.2.1 (fun _ _ h => nul (fun q => h (by rw [q]))) (fun _ _ h => els (sg_inj hp.2.1 hG.g (by decide) h)) (fun _ h => no _ h) (fun _ h => no _ h) (fun _ h => no _ h) (fun _ h => no _ h) (fun _ _ _ h => nul (fun q => h (by rw [q]))) (fun _ _ _ h => els (sg_inj hp.2.1 hG.g (by decide) h)) (fun _ _ h => no _ h) (fun _ _ h => no _ h) (fun _ _ h => no _ h) (fun _ _ h => no _ h) (fun _ h => no _ h)
end ChG
end Choice
