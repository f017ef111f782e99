/-! ===== the rules tied together; parse ===== -/
section Tie
variable {z : State} {l : Launch} {σ : Hp} {ad : Nat → Nat} {op sg : Nat → Nat} {aO aS mO mS : Nat} {T : Nat → Int32} {L : Nat} {E : Nat}
theorem rb_s (hp : PP z σ ad op sg aO aS mO mS L) (k : Nat) : RB z l σ ad op sg mt_P_sum [.ref (ad 16), .int (nI k), .retAddr 0, .retAddr 0] E 44 := rb_sum hp (rb_product hp (rb_factor hp))
theorem rb_condition (hp : PP z σ ad op sg aO aS mO mS L) (k : Nat) : RB z l σ ad op sg mt_P_condition [.ref (ad 16), .int (nI k), .retAddr 0] E 46 := by
  intro d w e Q hW kk
  refine cs_P_condition (d := d + E + 37) hp.1 hp.2.1 (cb_front (d := d + E + 36) hp (by decide) hW (fun _ => gj_nextI ?_))
  have e0 : nI k + 0 = nI k := Int32.add_zero _
  refine cs_P_condition_8 (d := d + E + 37) hp.1 ?_
  rw [e0]
  refine go_eq (show d + 1 + E + 44 = d + E + 45 by omega) (rb_s hp k (d + 1) w e _ hW (fun w1 f1 B1 _ => gj_nextV ?_))
  refine cs_P_condition_16 (d := d + E + 37) hp.1 ?_
  rw [e0]
  refine rb_comparison hp d w1 e _ B1 (fun w2 f2 B2 _ => gj_nextV ?_)
  exact cs_P_condition_23 (d := d + E + 37) hp.1 hp.2.1 (cb_each (d := d + E + 35) hp (by decide) (j := 0) B2 (by decide) (fun w3 f3 B3 _ => gj_nextV (cs_P_condition_31 (d := d + E + 37) hp.1 (kk w3 (f1.trans (f2.trans f3)) B3))))
theorem rb_x (hp : PP z σ ad op sg aO aS mO mS L) (k : Nat) (hk : k ≤ 100) : RB z l σ ad op sg mt_P_expression [.ref (ad 16), .int (nI k), .retAddr 0, .retAddr 0] E 48 := rb_expression hp (rb_conjunction hp (rb_condition hp k)) hk
theorem rb_x40 (hp : PP z σ ad op sg aO aS mO mS L) (f k : Nat) (hk : k ≤ 100) : RB z l σ ad op sg mt_P_expression [.ref (ad 16), .int (nI k), .retAddr 0, .retAddr 0] (10 * (f + 1)) 40 := fun d w e Q hW kk => go_eq (show d + 2 + 10 * f + 48 = d + 10 * (f + 1) + 40 by omega) (rb_x (E := 10 * f) hp k hk (d + 2) w e Q hW kk)
theorem rg_condition (hp : PP z σ ad op sg aO aS mO mS L) {X : PX} {k : Nat} (hk : k ≤ 30) (hB : ∀ k', k' ≤ 100 → RB z l σ ad op sg mt_P_expression [.ref (ad 16), .int (nI k'), .retAddr 0, .retAddr 0] E 40) (hX : ∀ k', k < k' → k' ≤ 31 → RG z l σ ad op sg T L mt_P_expression [.ref (ad 16), .int (nI k'), .retAddr 0, .retAddr 0] E 40 (X k')) : RG z l σ ad op sg T L mt_P_condition [.ref (ad 16), .int (nI k), .retAddr 0] E 46 (sp_cond T L X k) := by
  intro d w p ops n c ko Q hG kk
  refine cs_P_condition (d := d + E + 37) hp.1 hp.2.1 (cg_front (d := d + E + 24) hp (by decide) hk hG (fun j q hq w1 f1 G1 _ => gj_nextI ?_) (fun e he w1 v f1 B1 hv _ => gj_nextI ?_))
  · have hpL : p ≤ L := hG.2.2.2.2.2.2.2.2.2.2.1
    obtain ⟨fl1, fl2, fl3⟩ := front_le (s := 2) (by decide) _ _ _ _ hpL hq
    have es : sp_cond T L X k p ops = match sp_condB T L X (k + j) q ops with
        | .error e => .error e
        | .ok (m, p2, o2) => .ok (ex_it 16 j m, p2, o2) := by
      rw [sp_cond, hq]
      rfl
    have hX' : ∀ k', k + j < k' → k' ≤ 31 → RG z l σ ad op sg T L mt_P_expression [.ref (ad 16), .int (nI k'), .retAddr 0, .retAddr 0] E 40 (X k') := fun k' h1 h2 => hX k' (by omega) h2
    have hFs : RG z l σ ad op sg T L mt_P_sum [.ref (ad 16), .int (nI (k + j)), .retAddr 0, .retAddr 0] E 44 (sp_sum T L X (k + j)) := rg_sum hp (rb_product hp (rb_factor hp)) (rg_product hp (rb_factor hp) (rg_factor hp hB hX' (by omega)))
    exact rg_condB (k := k + j) hp (hB _ (by omega)) (hX _ (by omega) (by omega)) (rb_s hp _) hFs (by omega) hG f1 G1 (by omega) fl1 pk_add (fun w' hw' => kk w' (by rw [es]; exact hw'))
  · have es : sp_cond T L X k p ops = .error e := by rw [sp_cond, he]
    refine cs_P_condition_8 (d := d + E + 37) hp.1 ?_
    rw [pk_add]
    refine go_eq (show d + 1 + E + 44 = d + E + 45 by omega) (rb_s hp (k + v) (d + 1) w1 e _ B1 (fun w2 f2 B2 _ => gj_nextV ?_))
    refine cs_P_condition_16 (d := d + E + 37) hp.1 ?_
    rw [pk_add]
    refine rb_comparison hp d w2 e _ B2 (fun w3 f3 B3 _ => gj_nextV ?_)
    exact cs_P_condition_23 (d := d + E + 37) hp.1 hp.2.1 (cb_each (d := d + E + 35) hp (by decide) B3 (by omega) (fun w4 f4 B4 _ => gj_nextV (cs_P_condition_31 (d := d + E + 37) hp.1 (kk w4 (po_err es (f1.trans (f2.trans (f3.trans f4))) B4)))))
theorem rg_x (hp : PP z σ ad op sg aO aS mO mS L) : ∀ (f k : Nat), 1 ≤ k → k ≤ 31 → 31 ≤ f + k → RG z l σ ad op sg T L mt_P_expression [.ref (ad 16), .int (nI k), .retAddr 0, .retAddr 0] (10 * f) 48 (sp_X T L f k)
  | 0, k, h1, h2, h3 => by
    have hk : 30 < k := by omega
    have := rg_expression (l := l) (T := T) (L := L) (E := 10 * 0) hp (rb_conjunction hp (rb_condition hp k)) (by omega) (F := fun _ _ => .error 0) (fun q => absurd q (by omega))
    intro d w p ops n c ko Q hG kk
    refine this d w p ops n c ko Q hG (fun w' hw' => kk w' ?_)
    have e9 : (if 30 < k then .error (tk_s T L p) else sp_row T L (fun _ _ => .error 0) og_or (fun _ => ex_or) p ops) = Except.error (α := Ex × Nat × Nat) (tk_s T L p) := if_pos hk
    have hw2 : PO ad op sg T L w p ops n n c ko (if 30 < k then .error (tk_s T L p) else sp_row T L (fun _ _ => .error 0) og_or (fun _ => ex_or) p ops) w' := hw'
    rw [e9] at hw2
    exact hw2
  | f + 1, k, h1, h2, h3 => by
    have ih : ∀ k', k < k' → k' ≤ 31 → RG z l σ ad op sg T L mt_P_expression [.ref (ad 16), .int (nI k'), .retAddr 0, .retAddr 0] (10 * (f + 1)) 40 (sp_X T L f k') := fun k' a1 a2 => fun d w p ops n c ko Q hG kk => go_eq (show d + 2 + 10 * f + 48 = d + 10 * (f + 1) + 40 by omega) (rg_x hp f k' (by omega) a2 (by omega) (d + 2) w p ops n c ko Q hG kk)
    exact rg_expression (T := T) (L := L) (E := 10 * (f + 1)) hp (rb_conjunction hp (rb_condition hp k)) (by omega) (F := sp_conj T L (sp_X T L f) k) (fun hk => rg_conjunction hp (rb_condition hp k) (rg_condition hp hk (rb_x40 hp f) ih))
end Tie
/-- only what read changes has changed -/
def RF (w w' : Wd) : Prop := (∀ i f, i ≠ 12 → i ≠ 16 → i ≠ 17 → w'.I i f = w.I i f) ∧ (∀ i f, i ≠ 17 → w'.J i f = w.J i f) ∧ (∀ i f, ¬ (i = 17 ∧ f = 23) → ¬ (i = 16 ∧ f = 29) → w'.A i f = w.A i f) ∧ (∀ i, i ≠ 15 → w'.eI i = w.eI i) ∧ (∀ i, i ≠ 14 → w'.eJ i = w.eJ i) ∧ (∀ i, i ≠ 13 → w'.eA i = w.eA i)
theorem RF.pf {a b c : Wd} (h : RF a b) (k : PF b c) : RF a c :=
  ⟨fun i f x y u => (k.1 i f x y u).trans (h.1 i f x y u), fun i f q => (k.2.2.1 i f q).trans (h.2.1 i f q), fun i f q r => (k.2.2.2.1 i f q).trans (h.2.2.1 i f q r), fun i q => (k.2.2.2.2.1 i q).trans (h.2.2.2.1 i q), fun i q => (k.2.2.2.2.2.1 i q).trans (h.2.2.2.2.1 i q), fun i q => (k.2.2.2.2.2.2 i q).trans (h.2.2.2.2.2 i q)⟩
theorem rg_parse {z : State} {l : Launch} {σ : Hp} {ad : Nat → Nat} {op sg : Nat → Nat} {aO aS mO mS : Nat} {T : Nat → Int32} {L d : Nat} {w : Wd} {ko : Nat → Nat} {Q : Outcome → Hp → Prop} (hp : PP z σ ad op sg aO aS mO mS L) (hl : CLk w ad) (hT : w.eI 1 = T) (hL : L ≤ 1000) (hko : ∀ j, j < 1000 → w.eA 13 j = some (op (ko j)) ∧ ko j < 43)
    (ky : ∀ m, sp_read T L = .ok m → ∀ w' n c ko', RF w w' → CLk w' ad → w'.I 12 19 = nI n → n ≤ 1000 → c ≤ 1000 → (∀ j, j < 1000 → w'.eA 13 j = some (op (ko' j)) ∧ ko' j < 43) → Rep m 0 n c ko' (w'.eJ 14) (w'.eI 15) → Q (.returned (some (.int (-1)))) (ov σ ad 21 w'))
    (kn : ∀ e, sp_read T L = .error e → e ≤ 1000 → ∀ w' (ko' : Nat → Nat), RF w w' → CLk w' ad → (∀ j, j < 1000 → w'.eA 13 j = some (op (ko' j)) ∧ ko' j < 43) → Q (.returned (some (.int (nI e)))) (ov σ ad 21 w')) :
    Go z l mt_P_parse (d + 400) 0 [.ref (ad 16), .int (nI L), .ref (ad 12)] [] (ov σ ad 21 w) Q := by
  have hl1 : CLk (((((w.setA 16 29 (some (ad 12))).setI 12 19 0).setI 12 18 0).setI 16 30 (-1)).setI 16 31 0) ad := fun q hq => ((up22_eq _ _ _ _ _ _).trans (if_neg (cl_no23 q hq).2)).trans (hl q hq)
  have F1 : RF w ((((((w.setA 16 29 (some (ad 12))).setI 12 19 0).setI 12 18 0).setI 16 30 (-1)).setI 16 31 0).setI 17 21 (nI L)) :=
    ⟨fun i f a b c => by
      refine ((up22_eq _ _ _ _ _ _).trans (if_neg (fun q => c q.1))).trans (((up22_eq _ _ _ _ _ _).trans (if_neg (fun q => b q.1))).trans (((up22_eq _ _ _ _ _ _).trans (if_neg (fun q => b q.1))).trans (((up22_eq _ _ _ _ _ _).trans (if_neg (fun q => a q.1))).trans ((up22_eq _ _ _ _ _ _).trans (if_neg (fun q => a q.1)))))), fun _ _ _ => rfl, fun i f _ h => (up22_eq _ _ _ _ _ _).trans (if_neg h), fun _ _ => rfl, fun _ _ => rfl, fun _ _ => rfl⟩
  have eL : (if 1000 < nI L then 1000 else nI L) = nI L := if_neg (fun q => by
    have := (nI_ltI (a := 1000) (by omega) (by omega)).mp q
    omega)
  refine cs_P_parse (d := d + 391) hp.1 hl (cs_S_begin (d := d + 390) hp.1 hl1 ?_)
  rw [eL]
  refine cl_next (d := d + 378) (p := 0) (T := T) (L := L) hp.1 hp.2.1 hp.2.2.2 (fun q hq => hl1 q hq) hT rfl hL rfl (Nat.zero_le _) (fun w1 f1 t1 _ => gj_nextV (cs_S_begin_22 (d := d + 390) hp.1 (fun _ => gj_nextV (cs_P_parse_30 (d := d + 391) hp.1 ?_))))
  have f1' := (nf_22 ((((((w.setA 16 29 (some (ad 12))).setI 12 19 0).setI 12 18 0).setI 16 30 (-1)).setI 16 31 0).setI 17 21 (nI L)) 0).trans f1
  have G1 : GS ad op sg T L w1 0 0 0 0 ko := ⟨⟨fun q hq => (f1.2.2.1 _ _ (cl_no23 q hq).1).trans (hl1 q hq), f1.2.2.1 16 29 (by decide), fun j hj => by rw [f1.2.2.2.2.2]; exact hko j hj⟩, by rw [f1.2.2.2.1]; exact hT, f1.1 17 21 (by decide), t1, f1.1 16 30 (by decide), f1.1 16 31 (by decide), f1.1 12 19 (by decide), f1.1 12 18 (by decide), Nat.zero_le _, Nat.zero_le _, Nat.zero_le _, hL, Nat.zero_le _⟩
  have R1 : RF w w1 := F1.pf (PF.nf f1')
  refine go_eq (show d + 41 + 10 * 31 + 48 = d + 399 by omega) (rg_x hp 31 1 (by decide) (by decide) (by decide) (d + 41) w1 0 0 0 0 ko _ G1 (fun w2 hPO _ => gj_nextV ?_))
  cases hr : sp_X T L 31 1 0 0 with
  | error e =>
    rw [hr] at hPO
    obtain ⟨f2, B2⟩ := hPO
    obtain ⟨b1, b2, b3, n0, ko0, b4, -, -⟩ := id B2
    have es : sp_read T L = .error e := by rw [sp_read, hr]
    refine cs_P_parse_35 (d := d + 391) hp.1 hp.2.1 b4.1 b1 (fun h => absurd h (sg_ne hp.2.1 (by decide) (by decide) (by decide))) (fun _ _ => ?_) (fun _ h => absurd h (by rw [b2]; exact n1_ne b3))
    rw [b2]
    exact kn e es b3 _ ko0 ((R1.pf f2).pf (pf_stop _)) (b4.1.nf (nf_23 _ _)) b4.2.2
  | ok x =>
    obtain ⟨m, p2, o2⟩ := x
    rw [hr] at hPO
    obtain ⟨f2, ho, n2, c2, ko2, G2, Rm, g2⟩ := hPO
    have h1000 := gs_1000 G2
    have cle : c2 ≤ tk_s T L p2 := G2.2.2.2.2.2.2.2.2.2.1
    refine cs_P_parse_35 (d := d + 391) hp.1 hp.2.1 G2.1.1 G2.2.2.2.1.2.2.2.1 (fun h => ?_) (fun _ h => absurd G2.2.2.2.2.1 h) (fun h _ => ?_)
    · have hg := sg_inj hp.2.1 G2.g (by decide) h
      rw [G2.2.2.2.2.1]
      exact ky m (by rw [sp_read, hr]; exact if_pos hg) w2 n2 c2 ko2 (R1.pf f2) G2.1.1 G2.2.2.2.2.2.2.1 (by omega) (by omega) G2.1.2.2 Rm
    · have hg : ¬ tk_g T L p2 = 33 := fun q => h (by rw [q])
      have B3 := gs_break G2
      obtain ⟨b1, b2, b3, n0, ko0, b4, -, -⟩ := id B3
      rw [G2.2.2.2.1.2.1]
      rw [G2.2.2.2.1.2.1] at b1 b2 b4
      exact kn _ (by rw [sp_read, hr]; exact if_neg hg) (by omega) _ ko0 ((R1.pf f2).pf (pf_at _ _)) b4.1 b4.2.2
