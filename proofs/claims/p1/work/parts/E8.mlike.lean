/-! ===== LIKE in the reference ===== -/
theorem nb_b (b : Bool) : vp_nar .boolean (b2i b) = b2i b := by cases b <;> decide +kernel
theorem b2i_or (a b : Bool) : b2i a ||| b2i b = b2i (a || b) := by cases a <;> cases b <;> decide +kernel
theorem Wd.rowI_self (w : Wd) (i : Nat) : w.rowI i (w.eI i) = w := by
  have : up21 w.eI i (w.eI i) = w.eI := by
    funext h
    rw [up21_eq]
    by_cases e : h = i
    · rw [if_pos e, e]
    · rw [if_neg e]
  show (w.I, w.J, w.A, (up21 w.eI i (w.eI i) : Nat → Nat → Int32), w.eJ, w.eA) = w
  rw [this]
  rfl
/-- a value's text -/
def TX (σ : Hp) (am : Nat → Nat) (v t : Nat) (A : List Int32) : Prop := σ.tag v = 10 ∧ σ.I 72 v = nI A.length ∧ A.length ≤ 40 ∧ σ.A 73 v = some t ∧ σ.tag t = 21 ∧ mx am t ∧ σ.len t = 40 ∧ ∀ i, i < A.length → σ.eI t i = A.getD i 0
theorem VM.tx {σ : Hp} {am : Nat → Nat} {v : Nat} {x : Va} (h : VM σ am v x) (x1 : x.1 = 1) : ∃ t, TX σ am v t x.2.2 := by
  obtain ⟨b1, b2, b3, m, hm, b4, t, b5, b6, b7, b8, b9⟩ := h
  obtain ⟨ml, mc⟩ := b9 x1
  subst ml
  exact ⟨t, b1, b4, hm, b5, b6, b7, b8, mc⟩
section MLike
variable {z : State} {l : Launch} {d : Nat} {σ : Hp} {am : Nat → Nat} {w : Wd} {Q : Outcome → Hp → Prop} {a b s t : Nat} {A B : List Int32}
theorem mo_like (hc : CM z σ am) (hl : MLk w am) (hA : TX σ am a s A) (hB : TX σ am b t B) (k : ∀ f, Q (.returned (some (.int (b2i (sp_like A B))))) (ov σ am 7 (w.rowI 5 f))) :
    Go z l mt_M_like (d + 9) 0 [.ref (am 0), .ref a, .ref b, .retAddr 0, .retAddr 0, .retAddr 0] [] (ov σ am 7 w) Q := by
  obtain ⟨a1, a2, a3, a4, a5, a6, a7, a8⟩ := hA
  obtain ⟨b1, b2, b3, b4, b5, b6, b7, b8⟩ := hB
  have hl' : ∀ f, MLk (w.rowI 5 f) am := fun f => hl
  -- any more
  have anyl : ∀ (F : Nat → Bool) (x : Nat) (c : Int32) (kk : ∀ g, (∀ i, i ≤ A.length → g i = b2i (sp_any F i)) → ∀ u v : Value, Go z l mt_M_like (d + 9) 33 [.ref (am 0), .ref a, .ref b, .int (nI (x + 1)), u, v] [] (ov σ am 7 (w.rowI 5 g)) Q) (m j : Nat) (f : Nat → Int32), j + 1 + m = A.length + 1 → (∀ i, i ≤ j → f i = b2i (sp_any F i)) → (∀ i, j < i → i ≤ A.length → f i = b2i (F i)) → Go z l mt_M_like (d + 9) 59 [.ref (am 0), .ref a, .ref b, .int (nI x), .int c, .int (nI (j + 1))] [] (ov σ am 7 (w.rowI 5 f)) Q := by
    intro F x c kk m
    induction m with
    | zero =>
      intro j f hj h1 h2
      have q : σ.I 72 a < nI (j + 1) := by rw [a2]; exact nI_lt (by omega) (by omega)
      refine cm_M_like_59 (d := d) hc (hl' f) a1 (fun _ => ?_) (fun h => absurd q h) (fun h => absurd q h) (fun h => absurd q h)
      rw [nI_1]
      exact kk f (fun i hi => h1 i (by omega)) _ _
    | succ m ih =>
      intro j f hj h1 h2
      have q : ¬ σ.I 72 a < nI (j + 1) := by rw [a2]; exact nI_nlt (by omega) (by omega)
      have e1 : (nI (j + 1)).toNatClampNeg = j + 1 := nI_clamp (by omega)
      have e2 : nI (j + 1) - 1 = nI j := nI_pred j
      have e3 : (nI j).toNatClampNeg = j := nI_clamp (by omega)
      refine cm_M_like_59 (d := d) hc (hl' f) a1 (fun h => absurd h q) (fun _ => vp_in_nI (by omega) (by omega)) (fun _ => by rw [e2]; exact vp_in_nI (by omega) (by omega)) (fun _ => ?_)
      have er : ∀ i, (w.rowI 5 f).eI 5 i = f i := fun i => rfl
      rw [er, er, e1, e2, e3, h2 (j + 1) (by omega) (by omega), h1 j (Nat.le_refl _), b2i_or, nb_b, Wd.rowI_rowI, nI_1]
      refine ih (j + 1) _ (by omega) (fun i hi => ?_) (fun i p r => (va_up_ne _ _ (by omega)).trans (h2 i (by omega) r))
      by_cases hij : i = j + 1
      · rw [hij]; exact va_up_self _ _ _
      · exact (va_up_ne _ _ hij).trans (h1 i (by omega))
  -- one more
  have onel : ∀ (F : Nat → Bool) (x : Nat) (c : Int32) (kk : ∀ g, (∀ i, i ≤ A.length → g i = b2i (sp_one F c A i)) → ∀ u v : Value, Go z l mt_M_like (d + 9) 33 [.ref (am 0), .ref a, .ref b, .int (nI (x + 1)), u, v] [] (ov σ am 7 (w.rowI 5 g)) Q) (j : Nat) (f : Nat → Int32), j ≤ A.length → (∀ i, i ≤ j → f i = b2i (F i)) → (∀ i, j < i → i ≤ A.length → f i = b2i (sp_one F c A i)) → Go z l mt_M_like (d + 9) 102 [.ref (am 0), .ref a, .ref b, .int (nI x), .int c, .int (nI j)] [] (ov σ am 7 (w.rowI 5 f)) Q := by
    intro F x c kk j
    induction j with
    | zero =>
      intro f hj h1 h2
      have q : nI 0 ≤ 0 := by decide
      refine cm_M_like_102 (d := d) (b5 := s) hc (hl' f) a1 a6 a5 (fun _ => ?_) (fun h => absurd q h) (fun h => absurd q h) (fun h => absurd q h) (fun h => absurd q h) (fun h => absurd q h) (fun h => absurd q h) (fun h => absurd q h) (fun h => absurd q h) (fun h => absurd q h) (fun h => absurd q h) (fun h => absurd q h)
      rw [Wd.rowI_rowI, nb_0, nI_1]
      refine kk _ (fun i hi => ?_) _ _
      by_cases h0 : i = 0
      · subst h0; exact va_up_self _ _ _
      · exact (va_up_ne _ _ (show i ≠ (0 : Int32).toNatClampNeg from h0)).trans (h2 i (by omega) hi)
    | succ j ih =>
      intro f hj h1 h2
      have q : ¬ nI (j + 1) ≤ 0 := nI_nle (by omega) (by omega)
      have e1 : (nI (j + 1)).toNatClampNeg = j + 1 := nI_clamp (by omega)
      have e2 : nI (j + 1) - 1 = nI j := nI_pred j
      have e3 : (nI j).toNatClampNeg = j := nI_clamp (by omega)
      have f0 := h1 j (by omega)
      have g6 := a8 j (by omega)
      have i41 : vp_in (nI (j + 1)) 41 := vp_in_nI (by omega) (by omega)
      have key : ∀ (y : Int32), y = b2i (sp_one F c A (j + 1)) → Go z l mt_M_like (d + 9) 102 [.ref (am 0), .ref a, .ref b, .int (nI x), .int c, .int (nI (j + 1) + (-1))] [] (ov σ am 7 ((w.rowI 5 f).rowI 5 (va_up f (nI (j + 1)).toNatClampNeg y))) Q := by
        intro y hy
        rw [e1, Wd.rowI_rowI, pk_m1]
        refine ih _ (by omega) (fun i hi => (va_up_ne _ _ (by omega)).trans (h1 i (by omega))) (fun i p r => ?_)
        by_cases hij : i = j + 1
        · rw [hij, va_up_self, hy]
        · exact (va_up_ne _ _ hij).trans (h2 i (by omega) r)
      have er : ∀ i, (w.rowI 5 f).eI 5 i = f i := fun i => rfl
      refine cm_M_like_102 (d := d) (b5 := s) hc (hl' f) a1 a6 a5 (fun h => absurd h q) (fun _ => by rw [e2]; exact vp_in_nI (by omega) (by omega)) (fun _ _ => i41) (fun _ p => key _ ?_) (fun _ _ _ => i41) (fun _ p r => key _ ?_) (fun _ _ _ => a4) (fun _ _ _ => by rw [e2, a7]; exact vp_in_nI (by omega) (by omega)) (fun _ _ _ _ => i41) (fun _ p r cc => key _ ?_) (fun _ _ _ _ => i41) (fun _ p r cc => key _ ?_)
      · rw [er, e2, e3, f0, b2i_0] at p
        rw [nb_0, sp_one, p, Bool.false_and]
      · rw [er, e2, e3, f0, b2i_n] at p
        rw [nb_1, sp_one, p, r]
        rfl
      · rw [er, e2, e3, f0, b2i_n] at p
        rw [e2, e3, g6] at cc
        rw [nb_0, sp_one, p, show (c == 95) = false from beq_eq_false_iff_ne.mpr r, show (c == A.getD j 0) = false from beq_eq_false_iff_ne.mpr cc]
        rfl
      · rw [er, e2, e3, f0, b2i_n] at p
        rw [e2, e3, g6] at cc
        rw [nb_1, sp_one, p, show (c == A.getD j 0) = true from beq_iff_eq.mpr cc, Bool.or_true]
        rfl
  -- the pattern
  have pat : ∀ (m j : Nat) (f : Nat → Int32) (u v : Value), j + m = B.length → (∀ i, i ≤ A.length → f i = b2i (sp_lf A (fun i => B.getD i 0) j i)) → Go z l mt_M_like (d + 9) 33 [.ref (am 0), .ref a, .ref b, .int (nI j), u, v] [] (ov σ am 7 (w.rowI 5 f)) Q := by
    intro m
    induction m with
    | zero =>
      intro j f u v hj hf
      have cc : σ.I 72 b ≤ nI j := by rw [b2]; exact nI_le (by omega) (by omega)
      have ea : (σ.I 72 a).toNatClampNeg = A.length := by rw [a2]; exact nI_clamp (by omega)
      have ef : (w.rowI 5 f).eI 5 (σ.I 72 a).toNatClampNeg = b2i (sp_like A B) := by
        rw [ea]
        show f A.length = _
        rw [hf A.length (Nat.le_refl _), show j = B.length by omega]
        rfl
      refine fgt6 (cm_M_like_33 (d := d) (b5 := t) hc (hl' f) b1 a1 b6 b5 (fun _ => by rw [a2]; exact vp_in_nI (by omega) (by omega)) (fun _ => by rw [ef]; exact narB _) (fun _ => by rw [ef]; exact k f) (fun h => absurd cc h) (fun h => absurd cc h) (fun h => absurd cc h) (fun h => absurd cc h))
    | succ m ih =>
      intro j f u v hj hf
      have cc : ¬ σ.I 72 b ≤ nI j := by rw [b2]; exact nI_ge (by omega) (by omega)
      have ej : (nI j).toNatClampNeg = j := nI_clamp (by omega)
      have ec : σ.eI t (nI j).toNatClampNeg = B.getD j 0 := by rw [ej]; exact b8 j (by omega)
      refine fgt6 (cm_M_like_33 (d := d) (b5 := t) hc (hl' f) b1 a1 b6 b5 (fun h => absurd h cc) (fun h => absurd h cc) (fun h => absurd h cc) (fun _ => b4) (fun _ => by rw [b7]; exact vp_in_nI (by omega) (by omega)) (fun _ e37 => ?_) (fun _ e37 => ?_))
      · rw [ec] at e37 ⊢
        rw [a2]
        refine onel (sp_lf A (fun i => B.getD i 0) j) j _ (fun g hg u v => ih (j + 1) g u v (by omega) (fun i hi => ?_)) A.length f (Nat.le_refl _) hf (fun i p r => by omega)
        rw [hg i hi, sp_lf, if_neg e37]
      · rw [ec] at e37 ⊢
        refine anyl (sp_lf A (fun i => B.getD i 0) j) j _ (fun g hg u v => ih (j + 1) g u v (by omega) (fun i hi => ?_)) A.length 0 f (by omega) (fun i hi => ?_) (fun i _ r => hf i r)
        · rw [hg i hi, sp_lf, if_pos e37]
        · obtain rfl : i = 0 := by omega
          exact hf 0 (Nat.zero_le _)
  -- the first row
  have ini : ∀ (m j : Nat) (f : Nat → Int32), j + m = A.length + 1 → (∀ i, i < j → f i = b2i (i == 0)) → Go z l mt_M_like (d + 9) 2 [.ref (am 0), .ref a, .ref b, .int (nI j), .retAddr 0, .retAddr 0] [] (ov σ am 7 (w.rowI 5 f)) Q := by
    intro m
    induction m with
    | zero =>
      intro j f hj hf
      have q : σ.I 72 a < nI j := by rw [a2]; exact nI_lt (by omega) (by omega)
      exact cm_M_like_2 (d := d) hc (hl' f) a1 (fun _ => pat B.length 0 f _ _ (Nat.zero_add _) (fun i hi => hf i (by omega))) (fun h => absurd q h) (fun h => absurd q h) (fun h => absurd q h) (fun h => absurd q h)
    | succ m ih =>
      intro j f hj hf
      have q : ¬ σ.I 72 a < nI j := by rw [a2]; exact nI_nlt (by omega) (by omega)
      have e1 : (nI j).toNatClampNeg = j := nI_clamp (by omega)
      have j0 : nI j = 0 ↔ j = 0 := nI_eq (b := 0) (by omega) (by decide)
      refine cm_M_like_2 (d := d) hc (hl' f) a1 (fun h => absurd h q) (fun _ _ => vp_in_nI (by omega) (by omega)) (fun _ n0 => ?_) (fun _ _ => vp_in_nI (by omega) (by omega)) (fun _ n0 => ?_)
      · rw [e1, Wd.rowI_rowI, nb_0, nI_1]
        refine ih (j + 1) _ (by omega) (fun i hi => ?_)
        by_cases hij : i = j
        · rw [hij]
          refine (va_up_self _ _ _).trans ?_
          rw [show (j == 0) = false from beq_eq_false_iff_ne.mpr (fun e => n0 (j0.mpr e))]
        · exact (va_up_ne _ _ hij).trans (hf i (by omega))
      · rw [e1, Wd.rowI_rowI, nb_1, nI_1]
        refine ih (j + 1) _ (by omega) (fun i hi => ?_)
        by_cases hij : i = j
        · rw [hij]
          refine (va_up_self _ _ _).trans ?_
          rw [show (j == 0) = true from beq_iff_eq.mpr (j0.mp n0)]
        · exact (va_up_ne _ _ hij).trans (hf i (by omega))
  have es : w = w.rowI 5 (w.eI 5) := (Wd.rowI_self w 5).symm
  refine cm_M_like (d := d) hc ?_
  rw [es]
  exact ini (A.length + 1) 0 (w.eI 5) (Nat.zero_add _) (fun i hi => absurd hi (Nat.not_lt_zero _))
end MLike
section MLike2
variable {lo : Nat} {am : Nat → Nat}
theorem rn_like : PairR am lo 6 (fun _ => 0) ex_2 (fun o => o = 26) := by
  intro o σ0 m1 m2 n x y a c1 c2 e2 e h k1 k2 hl hh vd N h1 h2 h3 hho r1 r2
  obtain rfl : o = 26 := vd
  obtain ⟨K, hn, hb⟩ := pair_K h1 h2 h3 hho r1 r2
  refine ⟨r1.1, hn.1, hn.2.1, N.1, ⟨es_2 r1.2.2.2.2.1.1 r2.2.2.2.2.1.1 (Or.inl (Or.inl rfl)), ek_2 r1.2.2.2.2.1.2 r2.2.2.2.2.1.2 (by decide)⟩, rnk_2 (o := 26) rfl N hn hb K (fun z l d σ w Q ks v0 hc hl hv NT9 _ => ty_like hc hl hv NT9), ?_, hn.2.2⟩
  intro z l d σ w kn R q Q E A F g c b9 kO kE
  obtain ⟨z1, z2, z3⟩ := ck2_0 (o := 26) c
  obtain ⟨f1, f2⟩ := kc_due2 (o := 26) (kw := 1) (by decide) (by decide) rfl rfl (by decide) z3
  have N' := N.mvx (A n (Or.inl hn)) (A (n + 1) (Or.inl hb))
  have ev : (ex_2 26 m1 m2).2.1 R = ev2 26 m1 m2 R := rfl
  rw [ev] at kO kE
  unfold ev2 at kO kE
  refine go_eq (show d + 2 * h + 13 + 9 = d + 2 * (h + 1) + 20 by omega) (ev_6 (d := d + 2 * h + 13) E.1 E.2.1 N' (show 1 ≤ 2 by decide) (show 2 ≤ 100 ∧ 2 ≤ 1000 by decide) (go_eq (show d + 1 + 2 * h + 20 = d + 2 * h + 13 + 8 by omega) (ev_two (d := d + 1) K E A F g z1 z2 (by omega) (fun e0 => ?_) (fun e0 σ1 w1 q1 v1 E1 F1 W1 V1 A1 Fr1 b1 => ?_))))
  · rw [if_pos e0] at kE
    exact fun σ' w' q' E' F' W' _ => gj_nextT (go_out (fun _ h => nomatch h) (kE e0 σ' w' q' E' (F'.mono (by omega)) W'))
  · rw [if_neg (fun q => q e0)] at kO kE
    have N1 := N.mvx (A1 n (Or.inl hn)) (A1 (n + 1) (Or.inl hb))
    refine fun _ => gj_nextI (cm_M_eval_119 (d := d + 2 * h + 13) (b2 := n + 1) (b6 := y) E1.1 N1.1 N1.2.2.2.2.1 N1.2.2.2.1 (by rw [N1.2.2.2.2.2.1]; exact vp_in_nI (n := 1) (by decide) (by decide)) (N1.2.2.2.2.2.2.2.2 1 (show 1 < 2 by decide)) (go_eq (show d + 1 + 2 * h + 20 = d + 2 * h + 13 + 8 by omega) (ev_snd (d := d + 1) K E1 A1 Fr1 g z2 b1 (fun e1 => ?_) (fun e1 σ2 w2 q2 v2 E2 F2 W2 V2 A2 Fr2 => ?_))))
    · rw [if_pos e1] at kE
      exact fun σ' w' q' E' F' W' _ => gj_nextT (go_out (fun _ h => nomatch h) (kE e1 σ' w' q' E' (F1.trans F' (by omega)) (W1.trans W')))
    · rw [if_neg (fun q => q e1)] at kO kE
      have ty1 := r1.2.2.2.2.1.1 kn R _ g (show m1.1 kn = (0, (m1.1 kn).2) from Prod.ext z1 rfl) e0
      have ty2 := r2.2.2.2.2.1.1 kn R _ g (show m2.1 kn = (0, (m2.1 kn).2) from Prod.ext z2 rfl) e1
      have g1 := ty_ft ty1 f1 (by decide) (by decide)
      have g2 := ty_ft ty2 f2 (by decide) (by decide)
      have V1' := V1.mv F2
      have N2 := N.mvx (A2 n (Or.inl hn)) (A2 (n + 1) (Or.inl hb))
      have F12 := F1.trans F2 (Nat.le_refl _)
      have k4k : q2.k < 4000 := by have := F1.2.2.1; have := F2.2.2.1; omega
      have ta : σ2.I 70 v1 = 0 ↔ (m1.2.1 R).2.1 = 3 := by rw [V1'.1.2.1]; exact mty_0 ty1.1.k4
      have tb : σ2.I 70 v2 = 0 ↔ (m2.2.1 R).2.1 = 3 := by rw [V2.1.2.1]; exact mty_0 ty2.1.k4
      have nul : ((m1.2.1 R).2.1 = 3 ∨ (m2.2.1 R).2.1 = 3) → Go z l mt_M_value_1 (d + 2 * h + 13 + 8) 0 [.ref (am 0), .int 0, .long 0, .retAddr 0, .retAddr 0, .retAddr 0] [] (ov σ2 am 7 w2) (fun o' σ1 => hp_Le (ov σ2 am 7 w2) σ1 → gj_next z l mt_M_eval (d + 2 * h + 13 + 9) 148 [.ref (am 0), .ref n, .ref v1, .ref v2, .retAddr 0, .retAddr 0, .retAddr 0] [] Q o' σ1) := fun e3 => by
        rw [if_pos e3] at kO
        exact go_eq (show d + 2 * h + 12 + 9 = d + 2 * h + 13 + 8 by omega) (mo_null (d := d + 2 * h + 12) (kv := 1) E2 k4k (Nat.le_refl _) (fun σ3 w3 q3 v3 E3 F3 W3 V3 _ => gj_nextI (cm_M_eval_151 (d := d + 2 * h + 13) E3.1 (kO rfl σ3 w3 q3 v3 E3 (F12.trans F3 (by omega)) ((W1.trans W2).trans W3) V3))))
      refine fun _ => gj_nextI (cm_M_eval_130 (d := d + 2 * h + 13) E2.1 V1'.1.1 V2.1.1 (fun e3 => nul (Or.inl (ta.mp e3))) (fun e3 e4 => ?_) (fun _ e4 => nul (Or.inr (tb.mp e4))))
      have x3 : ¬ (m1.2.1 R).2.1 = 3 := fun r => e3 (ta.mpr r)
      have y3 : ¬ (m2.2.1 R).2.1 = 3 := fun r => e4 (tb.mpr r)
      rw [if_neg (fun r => r.elim x3 y3)] at kO
      obtain ⟨s, tx⟩ := V1'.1.tx (g1.resolve_left x3)
      obtain ⟨t, tY⟩ := V2.1.tx (g2.resolve_left y3)
      have st : sp_st 26 (m1.2.1 R).2 (m2.2.1 R).2 v_null = (0, v_bool (sp_like (m1.2.1 R).2.2.2 (m2.2.1 R).2.2.2)) := rfl
      rw [st] at kO
      refine go_eq (show d + 2 * h + 12 + 9 = d + 2 * h + 13 + 8 by omega) (mo_like (d := d + 2 * h + 12) E2.1 E2.2.1 tx tY (fun f _ => gj_nextI ?_))
      have E3 : EM z σ2 am (w2.rowI 5 f) R q2 := E2
      have W3 : WE w2 (w2.rowI 5 f) := ⟨fun _ _ _ => rfl, rfl, fun _ _ _ => rfl, fun i hi => (up21_eq _ _ _ _).trans (if_neg hi), rfl, rfl⟩
      have kd1 : ¬ σ2.I 64 n = 1 := by rw [N2.2.2.1]; decide
      have go : ∀ (p : Bool) (b : Int32), b = b2i p → sp_like (m1.2.1 R).2.2.2 (m2.2.1 R).2.2.2 = p → Go z l mt_M_truth (d + 2 * h + 13 + 8) 0 [.ref (am 0), .int b] [] (ov σ2 am 7 (w2.rowI 5 f)) (fun o' σ1 => hp_Le (ov σ2 am 7 (w2.rowI 5 f)) σ1 → gj_next z l mt_M_eval (d + 2 * h + 13 + 9) 180 [.ref (am 0), .ref n, .ref v1, .ref v2, .retAddr 0, .retAddr 0, .retAddr 0] [] Q o' σ1) := fun p b hb9 hp => by
        rw [hp] at kO
        exact go_eq (show d + 2 * h + 11 + 10 = d + 2 * h + 13 + 8 by omega) (mo_truth (d := d + 2 * h + 11) (kv := 1) E3 k4k hb9 (Nat.le_refl _) (fun σ4 w4 q4 v4 E4 F4 W4 V4 _ => gj_nextI (cm_M_eval_183 (d := d + 2 * h + 13) E4.1 (kO rfl σ4 w4 q4 v4 E4 (F12.trans F4 (by omega)) (((W1.trans W2).trans W3).trans W4) V4))))
      cases hp : sp_like (m1.2.1 R).2.2.2 (m2.2.1 R).2.2.2 with
      | false => exact cm_M_eval_159 (d := d + 2 * h + 13) E2.1 N2.1 (fun _ _ => go false 0 rfl hp) (fun _ q9 => absurd rfl q9) (fun q9 => absurd q9 kd1) (fun q9 => absurd q9 kd1)
      | true => exact cm_M_eval_159 (d := d + 2 * h + 13) E2.1 N2.1 (fun _ q9 => absurd (show (1 : Int32) = 0 from q9) (by decide)) (fun _ _ => go true 1 rfl hp) (fun q9 => absurd q9 kd1) (fun q9 => absurd q9 kd1)
end MLike2
