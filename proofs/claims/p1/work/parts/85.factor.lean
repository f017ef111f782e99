/-! ===== constants, names, factors ===== -/
section Tok2
variable {T : Nat → Int32} {L : Nat}
theorem i64_b {x : Int} (h1 : -9223372036854775808 ≤ x) (h2 : x ≤ 9223372036854775807) : x.bmod (2 ^ 64) = x := by
  rw [Int.bmod_def]
  split <;> omega
theorem int_rng : ∀ (n : Nat) (v : Int64) (e : Nat), 0 ≤ v.toInt → v.toInt ≤ 9007199254740992 → 0 ≤ (sc_int T L n v e).1.toInt ∧ (sc_int T L n v e).1.toInt ≤ 9007199254740992
  | 0, v, e, h1, h2 => ⟨h1, h2⟩
  | n + 1, v, e, h1, h2 => by
    unfold sc_int
    split
    · next h =>
      have d1 : (48 : Int) ≤ (T e).toInt := Int32.le_iff_toInt_le.mp h.2.1
      have d2 : (T e).toInt ≤ 57 := Int32.le_iff_toInt_le.mp h.2.2
      have ev : (10 * v + (T e).toInt64 - 48).toInt = 10 * v.toInt + (T e).toInt - 48 := by
        have e10 : ((10 : Int64)).toInt = 10 := by decide
        have e48 : ((48 : Int64)).toInt = 48 := by decide
        rw [Int64.toInt_sub, Int64.toInt_add, Int64.toInt_mul, Int32.toInt_toInt64, e10, e48, i64_b (x := 10 * v.toInt) (by omega) (by omega), i64_b (x := 10 * v.toInt + (T e).toInt) (by omega) (by omega), i64_b (by omega) (by omega)]
      refine int_rng n _ (e + 1) ?_ ?_
      · split
        · decide
        · rw [ev]; omega
      · split
        · decide
        · next hh =>
          have : ¬ ((9007199254740992 : Int64)).toInt < (10 * v + (T e).toInt64 - 48).toInt := fun q => hh (Int64.lt_iff_toInt_lt.mpr q)
          have e5 : ((9007199254740992 : Int64)).toInt = 9007199254740992 := by decide
          omega
    · exact ⟨h1, h2⟩
theorem tk_int {p : Nat} (h : tk_g T L p = 16) : -9007199254740991 ≤ (tk_n T L p).toInt ∧ (tk_n T L p).toInt ≤ 9007199254740991 := by
  have hg : (tk_at T L (tk_s T L p)).1 = 16 := h
  show -9007199254740991 ≤ (tk_at T L (tk_s T L p)).2.2.1.toInt ∧ (tk_at T L (tk_s T L p)).2.2.1.toInt ≤ 9007199254740991
  generalize tk_s T L p = s at hg ⊢
  unfold tk_at at hg ⊢
  by_cases h1 : L ≤ s
  · rw [if_pos h1] at hg; exact absurd hg (by simp)
  · rw [if_neg h1] at hg ⊢
    by_cases h2 : sc_let (T s)
    · rw [if_pos h2] at hg; exact absurd hg ofWord_not.1
    · rw [if_neg h2] at hg ⊢
      by_cases h3 : sc_dig (T s)
      · rw [if_pos h3] at hg ⊢
        by_cases hv : 9007199254740991 < (sc_int T L (L - s) 0 s).1
        · rw [if_pos hv] at hg; exact absurd hg (by simp)
        · have := int_rng (T := T) (L := L) (L - s) 0 s (by decide) (by decide)
          have h5 : ¬ ((9007199254740991 : Int64)).toInt < (sc_int T L (L - s) 0 s).1.toInt := fun q => hv (Int64.lt_iff_toInt_lt.mpr q)
          have e5 : ((9007199254740991 : Int64)).toInt = 9007199254740991 := by decide
          show -9007199254740991 ≤ (sc_int T L (L - s) 0 s).1.toInt ∧ (sc_int T L (L - s) 0 s).1.toInt ≤ 9007199254740991
          omega
      · rw [if_neg h3] at hg ⊢
        by_cases h4 : T s = 39
        · rw [if_pos h4] at hg
          by_cases hv : (sc_quote T L (L - s) (s + 1)).1 = true ∧ sc_alb (sc_quote T L (L - s) (s + 1)).2.2 = true ∧ (sc_quote T L (L - s) (s + 1)).2.2.length ≤ 40
          · rw [if_pos hv] at hg; exact absurd hg (by simp)
          · rw [if_neg hv] at hg; exact absurd hg (by simp)
        · rw [if_neg h4] at hg
          have := sign_not (T := T) (L := L) (s := s)
          have hg' : (sc_sign T L s).1 = 16 := hg
          omega
theorem tk_name {p : Nat} (h : tk_g T L p = 15) : tk_s T L p < L ∧ sc_let (T (tk_s T L p)) := by
  have hg : (tk_at T L (tk_s T L p)).1 = 15 := h
  generalize tk_s T L p = s at hg ⊢
  unfold tk_at at hg
  by_cases h1 : L ≤ s
  · rw [if_pos h1] at hg; exact absurd hg (by simp)
  · rw [if_neg h1] at hg
    by_cases h2 : sc_let (T s)
    · exact ⟨by omega, h2⟩
    · rw [if_neg h2] at hg
      exfalso
      by_cases h3 : sc_dig (T s)
      · rw [if_pos h3] at hg
        by_cases hv : 9007199254740991 < (sc_int T L (L - s) 0 s).1
        · rw [if_pos hv] at hg; exact absurd hg (by simp)
        · rw [if_neg hv] at hg; exact absurd hg (by simp)
      · rw [if_neg h3] at hg
        by_cases h4 : T s = 39
        · rw [if_pos h4] at hg
          by_cases hv : (sc_quote T L (L - s) (s + 1)).1 = true ∧ sc_alb (sc_quote T L (L - s) (s + 1)).2.2 = true ∧ (sc_quote T L (L - s) (s + 1)).2.2.length ≤ 40
          · rw [if_pos hv] at hg; exact absurd hg (by simp)
          · rw [if_neg hv] at hg; exact absurd hg (by simp)
        · rw [if_neg h4] at hg
          have := sign_not (T := T) (L := L) (s := s)
          have hg' : (sc_sign T L s).1 = 15 := hg
          omega
theorem let_nat {b : Int32} (h : sc_let b) : ∃ j, 65 ≤ j ∧ j < 123 ∧ b = nI j := by
  have hb : 65 ≤ b ∧ b ≤ 122 := by
    rcases h with h | h | h
    · exact ⟨Int32.le_trans (by decide) h.1, h.2⟩
    · exact ⟨h.1, Int32.le_trans h.2 (by decide)⟩
    · subst h; decide
  have hc : ch_ok b ∨ True := .inr trivial
  obtain ⟨j, h1, h2, h3⟩ := ch_of (c := b) ⟨Int32.le_trans (by decide) hb.1, Int32.le_trans hb.2 (by decide)⟩
  refine ⟨j, ?_, ?_, h3⟩
  · have := hb.1
    rw [h3] at this
    exact (nI_leI (a := 65) (by omega) (by omega)).mp this
  · have := hb.2
    rw [h3] at this
    have := (nI_leI (b := 122) (by omega) (by omega)).mp this
    omega
end Tok2
theorem reg_t0 : ∀ j, j < 123 → 65 ≤ j → ¬ nI j < 65 := by decide +kernel
theorem reg_t1 : ∀ j, j < 123 → 65 ≤ j → (90 < nI j → nI j - 97 < 0 → ¬ (97 ≤ sc_low (nI j) ∧ sc_low (nI j) ≤ 104)) := by decide +kernel
theorem reg_t2 : ∀ j, j < 123 → 65 ≤ j → (90 < nI j ∧ ¬ nI j - 97 < 0 ∧ 8 ≤ nI j - 97 → ¬ (97 ≤ sc_low (nI j) ∧ sc_low (nI j) ≤ 104)) := by decide +kernel
theorem reg_t3 : ∀ j, j < 123 → 65 ≤ j → (90 < nI j ∧ ¬ nI j - 97 < 0 ∧ ¬ 8 ≤ nI j - 97 → (97 ≤ sc_low (nI j) ∧ sc_low (nI j) ≤ 104) ∧ (sc_low (nI j) - 97).toNatClampNeg < 8 ∧ nI j - 97 = nI (sc_low (nI j) - 97).toNatClampNeg) := by decide +kernel
theorem reg_t4 : ∀ j, j < 123 → 65 ≤ j → (¬ 90 < nI j → nI j + 32 - 97 < 0 → ¬ (97 ≤ sc_low (nI j) ∧ sc_low (nI j) ≤ 104)) := by decide +kernel
theorem reg_t5 : ∀ j, j < 123 → 65 ≤ j → (¬ 90 < nI j ∧ ¬ nI j + 32 - 97 < 0 ∧ 8 ≤ nI j + 32 - 97 → ¬ (97 ≤ sc_low (nI j) ∧ sc_low (nI j) ≤ 104)) := by decide +kernel
theorem reg_t6 : ∀ j, j < 123 → 65 ≤ j → (¬ 90 < nI j ∧ ¬ nI j + 32 - 97 < 0 ∧ ¬ 8 ≤ nI j + 32 - 97 → (97 ≤ sc_low (nI j) ∧ sc_low (nI j) ≤ 104) ∧ (sc_low (nI j) - 97).toNatClampNeg < 8 ∧ nI j + 32 - 97 = nI (sc_low (nI j) - 97).toNatClampNeg) := by decide +kernel
section Fac
variable {z : State} {l : Launch} {σ : Hp} {ad : Nat → Nat} {op sg : Nat → Nat} {aO aS mO mS : Nat} {T : Nat → Int32} {L : Nat}
/-- the register of a name -/
theorem cg_reg {d : Nat} {w : Wd} {Q : Outcome → Hp → Prop} {p ops n c : Nat} {ko : Nat → Nat} (hp : PP z σ ad op sg aO aS mO mS L) (hG : GS ad op sg T L w p ops n c ko) (hg : tk_g T L p = 15) (ky : sc_reg T (tk_s T L p) (tk_e T L p) < 8 → Q (.returned (some (.int (nI (sc_reg T (tk_s T L p) (tk_e T L p)))))) (ov σ ad 21 w)) (kn : ¬ sc_reg T (tk_s T L p) (tk_e T L p) < 8 → Q (.returned (some (.int (-1)))) (ov σ ad 21 w)) : Go z l mt_S_register (d + 9) 0 [.ref (ad 17), .retAddr 0] [] (ov σ ad 21 w) Q := by
  have h1000 := gs_1000 hG
  obtain ⟨g1, g2, g3, g4, g5, g6, g7, g8, g9, g10, g11, g12, g13⟩ := hG
  have ht := tk_le (T := T) g11
  obtain ⟨hsL, hlt⟩ := tk_name hg
  obtain ⟨j, j1, j2, j3⟩ := let_nat hlt
  have t0 := reg_t0 j j2 j1
  have t1 := reg_t1 j j2 j1
  have t2 := reg_t2 j j2 j1
  have t3 := reg_t3 j j2 j1
  have t4 := reg_t4 j j2 j1
  have t5 := reg_t5 j j2 j1
  have t6 := reg_t6 j j2 j1
  rw [← j3] at t0 t1 t2 t3 t4 t5 t6
  have e1 : w.I 17 25 - w.I 17 24 = 1 ↔ tk_e T L p = tk_s T L p + 1 := by
    rw [g4.2.1, g4.2.2.1, pk_sub (by omega)]
    exact (nI_eq (b := 1) (by omega) (by omega)).trans ⟨fun h => by omega, fun h => by omega⟩
  have eb : w.eI 1 (w.I 17 24).toNatClampNeg = T (tk_s T L p) := by rw [g4.2.1, nI_clamp (by omega), g2]
  have no : ¬ (97 ≤ sc_low (T (tk_s T L p)) ∧ sc_low (T (tk_s T L p)) ≤ 104) → Q (.returned (some (.int (-1)))) (ov σ ad 21 w) := fun h => kn (by rw [sc_reg, if_neg (fun q => h q.2)]; decide)
  have yes : ∀ x : Int32, w.I 17 25 - w.I 17 24 = 1 → (97 ≤ sc_low (T (tk_s T L p)) ∧ sc_low (T (tk_s T L p)) ≤ 104) ∧ (sc_low (T (tk_s T L p)) - 97).toNatClampNeg < 8 ∧ x = nI (sc_low (T (tk_s T L p)) - 97).toNatClampNeg → Q (.returned (some (.int x))) (ov σ ad 21 w) := fun x hx h => by
    have er : sc_reg T (tk_s T L p) (tk_e T L p) = (sc_low (T (tk_s T L p)) - 97).toNatClampNeg := if_pos ⟨e1.mp hx, h.1⟩
    rw [er] at ky
    rw [h.2.2]
    exact ky h.2.1
  refine cs_S_register (d := d) hp.1 g1.1 (fun h => kn ?_) (fun _ => ?_) (fun _ h => absurd (by rw [eb] at h; exact h) t0) (fun _ h => absurd (by rw [eb] at h; exact h) t0) (fun _ h => absurd (by rw [eb] at h; exact h) t0) (fun _ _ a b => no ?_) (fun _ _ a b c => no ?_) (fun h _ a b c => yes _ h ?_) (fun _ _ a b => no ?_) (fun _ _ a b c => no ?_) (fun h _ a b c => yes _ h ?_)
  · rw [sc_reg, if_neg (fun q => h (e1.mpr q.1))]
    decide
  · rw [g4.2.1]
    exact vp_in_nI (by omega) (by omega)
  · rw [eb] at a b
    exact t1 a b
  · rw [eb] at a b c
    exact t2 ⟨a, b, c⟩
  · rw [eb] at a b c ⊢
    exact t3 ⟨a, b, c⟩
  · rw [eb] at a b
    exact t4 a b
  · rw [eb] at a b c
    exact t5 ⟨a, b, c⟩
  · rw [eb] at a b c ⊢
    exact t6 ⟨a, b, c⟩
theorem rb_constant {E : Nat} (hp : PP z σ ad op sg aO aS mO mS L) : RB z l σ ad op sg mt_P_constant [.ref (ad 16)] E 41 := by
  intro d w e Q hW kk
  obtain ⟨b1, b2, b3, n0, ko0, b4, -, -⟩ := id hW
  exact cs_P_constant (d := d + E + 32) hp.1 hp.2.1 b4.1 b4.2.1 b1 (by decide) (fun _ _ => kk _ (pf_stop _) (bs_stop hW)) (fun _ h => absurd h (by rw [b2]; exact n1_ne b3)) (fun h => absurd h (by decide +kernel)) (fun h => absurd h (by decide +kernel)) (fun h => absurd h (by decide +kernel)) (fun h => absurd h (by decide +kernel)) (fun h => absurd h (by decide +kernel))
theorem sgm_4 : ∀ g, g < 35 → sg_map.getD g 0 = 4 → g = 16 := by decide +kernel
theorem sgm_5 : ∀ g, g < 35 → sg_map.getD g 0 = 5 → g = 17 := by decide +kernel
theorem sgm_6 : ∀ g, g < 35 → sg_map.getD g 0 = 6 → g = 13 := by decide +kernel
theorem sgm_7 : ∀ g, g < 35 → sg_map.getD g 0 = 7 → g = 14 := by decide +kernel
theorem sgm_8 : ∀ g, g < 35 → sg_map.getD g 0 = 8 → g = 4 := by decide +kernel
theorem sgm_1 : ∀ g, g < 35 → sg_map.getD g 0 = 1 → g = 15 := by decide +kernel
theorem sgm_2 : ∀ g, g < 35 → sg_map.getD g 0 = 2 → g = 8 := by decide +kernel
theorem sgm_3 : ∀ g, g < 35 → sg_map.getD g 0 = 3 → g = 30 := by decide +kernel
theorem sgm_c : ∀ g, g < 35 → ((sg_map.getD g 0).toInt < 4 ∨ 8 < (sg_map.getD g 0).toInt) → ¬ g = 16 ∧ ¬ g = 17 ∧ ¬ g = 13 ∧ ¬ g = 14 ∧ ¬ g = 4 := by decide +kernel
theorem sgm_f : ∀ g, g < 35 → ((sg_map.getD g 0).toInt < 1 ∨ 3 < (sg_map.getD g 0).toInt) → ¬ g = 15 ∧ ¬ g = 8 ∧ ¬ g = 30 := by decide +kernel
theorem rg_constant {E : Nat} (hp : PP z σ ad op sg aO aS mO mS L) : RG z l σ ad op sg T L mt_P_constant [.ref (ad 16)] E 41 (sp_const T L) := by
  intro d w p ops n c ko Q hG kk
  have ht := tk_le (T := T) hG.2.2.2.2.2.2.2.2.2.2.1
  have nle : n ≤ tk_s T L p := hG.2.2.2.2.2.2.2.2.1
  have cle : c ≤ tk_s T L p := hG.2.2.2.2.2.2.2.2.2.1
  have h1000 := gs_1000 hG
  -- one step of the program, then the next sign
  have one : ∀ (o : Nat) (x : Int64) (m : Ex) (pc : Nat), o < 43 → tk_g T L p ≠ 33 → sp_const T L p ops = .ok (m, tk_e T L p, ops) → (∀ w1 : Wd, w1.eJ 14 = va_up (w.eJ 14) n x → Rep m n (n + 1) c (va_up ko n o) (w1.eJ 14) (w1.eI 15)) → (∀ (w1 : Wd) (s0 : Int32), CLk w1 ad → Go z l mt_S_next (d + E + 40) 0 [.ref (ad 17), .retAddr 0] [] (ov σ ad 21 w1) (fun o σ1 => hp_Le (ov σ ad 21 w1) σ1 → gj_next z l mt_P_constant (d + E + 41) 151 [.ref (ad 16)] [] Q o σ1) → Go z l mt_P_constant (d + E + 41) (pc + 3) [.ref (ad 16)] [.int s0] (ov σ ad 21 w1) Q) → Go z l mt_G_add (d + E + 40) 0 [.ref (ad 12), .ref (op o), .long x, .retAddr 0] [] (ov σ ad 21 w) (fun o σ1 => hp_Le (ov σ ad 21 w) σ1 → gj_next z l mt_P_constant (d + E + 41) pc [.ref (ad 16)] [] Q o σ1) := by
    intro o x m pc ho h33 es hR hnx
    have h1 := ht.2.2.2.1 h33
    have hle := ht.2.2.2.2.2.2.2
    refine cg_add (d := d + E + 31) hp.1 hp.2.1 (hp.2.2.1 o ho) ho hG.1 hG.2.2.2.2.2.2.1 (by omega) (fun _ => gj_nextI (hnx _ _ (hG.1.1.pf pf_add) ?_))
    obtain ⟨g1, g2, g3, g4, g5, g6, g7, g8, g9, g10, g11, g12, g13⟩ := id hG
    refine cl_next (d := d + E + 20) hp.1 hp.2.1 hp.2.2.2 (pl_add g1 ho).1 g2 g3 g12 g4.1 ht.2.2.1 (fun w2 f2 t2 _ => gj_nextV (cs_P_constant_154 (d := d + E + 32) hp.1 (kk w2 (po_ok es (pf_add.trans (PF.nf f2)) (Nat.le_refl _) (n' := n + 1) (c' := c) (ko' := va_up ko n o) ?_ ?_ ⟨fun j hj => ?_, fun j hj => ?_, by omega, Nat.le_refl _, by omega, by omega⟩))))
    · have hP := pl_add (w := w) (n := n) (x := x) (v := nI (n + 1)) g1 ho
      exact ⟨⟨hP.1.nf f2, (f2.2.2.1 _ _ (by decide)).trans hP.2.1, fun j hj => by rw [f2.2.2.2.2.2]; exact hP.2.2 j hj⟩, by rw [f2.2.2.2.1]; exact g2, (f2.1 _ _ (by decide)).trans g3, t2, (f2.1 _ _ (by decide)).trans g5, (f2.1 _ _ (by decide)).trans g6, f2.1 _ _ (by decide), (f2.1 _ _ (by decide)).trans g8, by omega, by omega, ht.2.2.1, g12, g13⟩
    · exact hR w2 (by rw [f2.2.2.2.2.1]; rfl)
    · rw [f2.2.2.2.2.1]
      exact ⟨hp_up_ne _ _ (by omega), hp_up_ne _ _ (by omega)⟩
    · rw [f2.2.2.2.1]
      rfl
  refine cs_P_constant (d := d + E + 32) hp.1 hp.2.1 hG.1.1 hG.1.2.1 hG.2.2.2.1.2.2.2.1 hG.g (fun _ h => absurd hG.2.2.2.2.1 h) (fun h _ => ?_) (fun h => ?_) (fun h => ?_) (fun h => ?_) (fun h => ?_) (fun h => ?_)
  · obtain ⟨a1, a2, a3, a4, a5⟩ := sgm_c _ hG.g h
    exact kk _ (po_err ((if_neg a1).trans ((if_neg a2).trans ((if_neg a3).trans ((if_neg a4).trans (if_neg a5))))) (pf_at _ _) (gs_break hG))
  · have hg := sgm_4 _ hG.g h
    have hr := tk_int hg
    have hj : w.J 17 26 = tk_n T L p := hG.2.2.2.1.2.2.2.2 hg
    rw [hj]
    exact one 1 (tk_n T L p) (ex_int (tk_n T L p)) 62 (by decide) (by rw [hg]; decide) (if_pos hg) (fun w1 r1 => rp_int (hp_up_same _ _ _) (by rw [r1]; exact hp_up_same _ _ _) hr.1 hr.2) (fun w1 s0 h1 h2 => cs_P_constant_65 (d := d + E + 32) hp.1 h1 h2)
  · have hg := sgm_5 _ hG.g h
    have h1 := ht.2.2.2.2.2.2.1 hg
    have hle := ht.2.2.2.2.2.2.2
    have es : sp_const T L p ops = .ok (ex_text (tk_c T L p), tk_e T L p, ops) := (if_neg (by rw [hg]; decide)).trans (if_pos hg)
    obtain ⟨g1, g2, g3, g4, g5, g6, g7, g8, g9, g10, g11, g12, g13⟩ := id hG
    refine cg_text (d := d + E + 30) hp hG hg (fun w1 f1 t1 i1 i2 P1 i3 i4 R1 k1 kc1 _ => gj_nextV (cs_P_constant_94 (d := d + E + 32) hp.1 P1.1 ?_))
    refine cl_next (d := d + E + 20) hp.1 hp.2.1 hp.2.2.2 P1.1 ((f1.2.2.2.2.1 1 (by decide)).trans g2) (f1.2.1.trans g3) g12 t1.1 ht.2.2.1 (fun w2 f2 t2 _ => gj_nextV (cs_P_constant_154 (d := d + E + 32) hp.1 (kk w2 (po_ok es (f1.trans (PF.nf f2)) (Nat.le_refl _) (n' := n + 1) (c' := c + 1 + (tk_c T L p).length) (ko' := va_up ko n 2) ?_ ?_ ⟨fun j hj => ?_, fun j hj => ?_, by omega, by omega, by omega, by omega⟩))))
    · exact ⟨⟨P1.1.nf f2, (f2.2.2.1 _ _ (by decide)).trans P1.2.1, fun j hj => by rw [f2.2.2.2.2.2]; exact P1.2.2 j hj⟩, by rw [f2.2.2.2.1]; exact (f1.2.2.2.2.1 1 (by decide)).trans g2, (f2.1 _ _ (by decide)).trans (f1.2.1.trans g3), t2, (f2.1 _ _ (by decide)).trans i3, (f2.1 _ _ (by decide)).trans i4, (f2.1 _ _ (by decide)).trans i1, (f2.1 _ _ (by decide)).trans i2, by omega, by omega, ht.2.2.1, g12, g13⟩
    · rw [f2.2.2.2.2.1, f2.2.2.2.1]
      exact R1
    · rw [f2.2.2.2.2.1]
      exact ⟨hp_up_ne _ _ (by omega), k1 j hj⟩
    · rw [f2.2.2.2.1]
      exact kc1 j hj
  · have hg := sgm_6 _ hG.g h
    exact one 3 1 (ex_bool 1) 105 (by decide) (by rw [hg]; decide) ((if_neg (by rw [hg]; decide)).trans ((if_neg (by rw [hg]; decide)).trans (if_pos hg))) (fun w1 r1 => rp_bool (hp_up_same _ _ _) (by rw [r1]; exact hp_up_same _ _ _) (.inr rfl)) (fun w1 s0 h1 h2 => cs_P_constant_108 (d := d + E + 32) hp.1 h1 h2)
  · have hg := sgm_7 _ hG.g h
    exact one 3 0 (ex_bool 0) 120 (by decide) (by rw [hg]; decide) ((if_neg (by rw [hg]; decide)).trans ((if_neg (by rw [hg]; decide)).trans ((if_neg (by rw [hg]; decide)).trans (if_pos hg)))) (fun w1 r1 => rp_bool (hp_up_same _ _ _) (by rw [r1]; exact hp_up_same _ _ _) (.inl rfl)) (fun w1 s0 h1 h2 => cs_P_constant_123 (d := d + E + 32) hp.1 h1 h2)
  · have hg := sgm_8 _ hG.g h
    exact one 4 0 ex_null 135 (by decide) (by rw [hg]; decide) ((if_neg (by rw [hg]; decide)).trans ((if_neg (by rw [hg]; decide)).trans ((if_neg (by rw [hg]; decide)).trans ((if_neg (by rw [hg]; decide)).trans (if_pos hg))))) (fun w1 r1 => rp_null (hp_up_same _ _ _)) (fun w1 s0 h1 h2 => cs_P_constant_138 (d := d + E + 32) hp.1 h1 h2)
end Fac
