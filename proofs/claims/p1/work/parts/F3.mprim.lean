/-! ===== the reference's rules: constants ===== -/
section MLit
variable {z : State} {l : Launch} {d : Nat} {σ : Hp} {am : Nat → Nat} {w : Wd} {Q : Outcome → Hp → Prop} {T : Nat → Int32} {L sa lo p ops k : Nat}
theorem mo_literal {ty : Int32} {nn : Int64} {x : Va} (hc : CM z σ am) (e1 : ty = mty x.1) (e2 : x.1 = 0 ∨ x.1 = 2 → nn = x.2.1) (e3 : ¬ x.1 = 1)
    (kk : ∀ σ', CM z σ' am → Fm am (fun _ => False) σ σ' → ND σ' σ.nx (σ.nx + 1) 0 0 [] 2 → σ'.A 66 σ.nx = some (σ.nx + 2) → VM σ' am (σ.nx + 2) x → σ'.A 73 (σ.nx + 2) = some (σ.nx + 3) → σ'.tag (σ.nx + 3) = 21 → σ'.nx = σ.nx + 4 → σ'.sl = σ.sl + 53 → Q (.returned (some (.ref σ.nx))) (ov σ' am 7 w)) :
    Go z l mt_M_literal (d + 10) 0 [.ref (am 0), .int ty, .long nn, .retAddr 0, .retAddr 0] [] (ov σ am 7 w) Q := by
  refine cm_M_literal (d := d + 1) hc (mo_node (d := d) hc (fun σ1 c1 f1 N1 n1 s1 z1 _ => gj_nextI (go_wf fun hw1 => cm_M_literal_5 (d := d + 1) c1 N1.1 z1 ?_)))
  have lt7 : ∀ i, i < 7 → am i < σ1.nx := c1.lt hw1
  have nlt : σ.nx < σ1.nx := by omega
  have n01 : σ1.nx ≠ σ1.nx + 1 := by omega
  have nn1 : σ.nx ≠ σ1.nx := by omega
  have sc : ∀ a, a < σ1.nx → a ≠ σ.nx → SameC σ1 ((((((σ1.newO 10 4).newA 21 40).setA 73 σ1.nx (some ((σ1.newO 10 4).nx))).setA 66 σ.nx (some σ1.nx)).setI 70 σ1.nx ty).setJ 71 σ1.nx nn) a := fun a ha hn => (((((SameC.newO ha).trans (SameC.newA (Nat.lt_succ_of_lt ha))).trans (SameC.setA (Nat.ne_of_lt ha))).trans (SameC.setA hn)).trans (SameC.setI (Nat.ne_of_lt ha))).trans (SameC.setJ (Nat.ne_of_lt ha))
  have mx0 : mx am σ1.nx := c1.nxO hw1
  have mx1 : mx am (σ1.nx + 1) := fun i hi e => by have := lt7 i hi; omega
  have i72 : σ1.I 72 σ1.nx = 0 := by
    have h9 := ((hw1.1 σ1.nx (Nat.le_refl _)).2.2.1 72).1
    rw [nn_I mx0] at h9
    exact h9
  rw [show σ.nx + 2 = σ1.nx by omega, show σ.nx + 3 = σ1.nx + 1 by omega] at kk
  obtain ⟨m1, m2, m3, m4, m5, m6, m7, m8, m9⟩ := id N1
  have sb := sc (σ.nx + 1) (by omega) (by omega)
  have tgn : ((((((σ1.newO 10 4).newA 21 40).setA 73 σ1.nx (some ((σ1.newO 10 4).nx))).setA 66 σ.nx (some σ1.nx)).setI 70 σ1.nx ty).setJ 71 σ1.nx nn).tag σ.nx = 9 := ((hp_up_ne _ _ (show σ.nx ≠ σ1.nx + 1 by omega)).trans (hp_up_ne _ _ nn1)).trans m1
  refine kk _ ⟨c1.1, fun i hi => ?_⟩ ⟨by show σ.nx ≤ σ1.nx + 2; omega, by show σ.sl ≤ σ1.sl + 44; omega, fun a ha hm _ => (f1.2.2 a ha hm (fun q => q)).trans (sc a (by omega) (by omega))⟩ ⟨tgn, ?_, ?_, ?_, sb.1.trans m5, sb.2.1.trans m6, ?_, m8, fun i hi => absurd hi (Nat.not_lt_zero _)⟩ ?_ ⟨?_, ?_, fun e => ?_, 0, Nat.zero_le _, ?_, σ1.nx + 1, ?_, hp_up_same _ _ _, mx1, hp_up_same _ _ _, fun e => absurd e e3⟩ ?_ (hp_up_same _ _ _) (by show σ1.nx + 2 = _; omega) (by show σ1.sl + 44 = _; omega)
  · have s9 := sc (am i) (lt7 i hi) (fun e => c1.out m1 rfl i hi e.symm)
    exact ⟨s9.1.trans (c1.2 i hi).1, s9.2.1.trans (c1.2 i hi).2.1, (c1.2 i hi).2.2⟩
  · exact (show up2 σ1.I 70 σ1.nx ty 63 σ.nx = σ1.I 63 σ.nx from up2_nf _ _ (by decide)).trans m2
  · exact (show up2 σ1.I 70 σ1.nx ty 64 σ.nx = σ1.I 64 σ.nx from up2_nf _ _ (by decide)).trans m3
  · exact (show ((((σ1.newO 10 4).newA 21 40).setA 73 σ1.nx (some ((σ1.newO 10 4).nx))).setA 66 σ.nx (some σ1.nx)).A 67 σ.nx = some (σ.nx + 1) from (Hp.sA_nf _ _ _ _ (by decide)).trans ((Hp.sA_nf _ _ _ _ (by decide)).trans m4))
  · exact (show up2 σ1.I 70 σ1.nx ty 68 σ.nx = σ1.I 68 σ.nx from up2_nf _ _ (by decide)).trans m7
  · exact (show ((((σ1.newO 10 4).newA 21 40).setA 73 σ1.nx (some ((σ1.newO 10 4).nx))).setA 66 σ.nx (some σ1.nx)).A 66 σ.nx = some σ1.nx from Hp.sA _ _ _ _)
  · exact (hp_up_ne _ _ n01).trans (hp_up_same _ _ _)
  · exact (show (((((σ1.newO 10 4).newA 21 40).setA 73 σ1.nx (some ((σ1.newO 10 4).nx))).setA 66 σ.nx (some σ1.nx)).setI 70 σ1.nx ty).I 70 σ1.nx = mty x.1 from (Hp.sI _ _ _ _).trans e1)
  · exact (Hp.sJ _ _ _ _).trans (e2 e)
  · exact (show up2 σ1.I 70 σ1.nx ty 72 σ1.nx = σ1.I 72 σ1.nx from up2_nf _ _ (by decide)).trans i72
  · exact (show ((((σ1.newO 10 4).newA 21 40).setA 73 σ1.nx (some ((σ1.newO 10 4).nx))).setA 66 σ.nx (some σ1.nx)).A 73 σ1.nx = some (σ1.nx + 1) from (Hp.sA_nf _ _ _ _ (by decide)).trans (Hp.sA _ _ _ _))
  · exact (show ((((σ1.newO 10 4).newA 21 40).setA 73 σ1.nx (some ((σ1.newO 10 4).nx))).setA 66 σ.nx (some σ1.nx)).A 73 σ1.nx = some (σ1.nx + 1) from (Hp.sA_nf _ _ _ _ (by decide)).trans (Hp.sA _ _ _ _))
/-- the sign's kind, by its number -/
theorem tok_kind (h : TokM σ am w T L p) : (w.I 0 44 = 3 ↔ tk_g T L p = 16) ∧ (w.I 0 44 = 4 ↔ tk_g T L p = 17) ∧ (w.I 0 44 = 2 ↔ tk_g T L p = 15) := by
  obtain ⟨-, h⟩ := h
  have key : ∀ v : Int32, w.I 0 44 = v → (v = 3 ↔ tk_g T L p = 16) → (v = 4 ↔ tk_g T L p = 17) → (v = 2 ↔ tk_g T L p = 15) → (w.I 0 44 = 3 ↔ tk_g T L p = 16) ∧ (w.I 0 44 = 4 ↔ tk_g T L p = 17) ∧ (w.I 0 44 = 2 ↔ tk_g T L p = 15) := fun v e a b c => by rw [e]; exact ⟨a, b, c⟩
  have no : ∀ {v u : Int32} {n : Nat}, ¬ v = u → ¬ tk_g T L p = n → (v = u ↔ tk_g T L p = n) := fun a b => ⟨fun q => absurd q a, fun q => absurd q b⟩
  rcases h with h | h | h | h | h | h | h | h
  · exact key 1 h.2.1 (no (by decide) (by omega)) (no (by decide) (by omega)) (no (by decide) (by omega))
  · exact key 2 h.2.1 (no (by decide) (by omega)) (no (by decide) (by omega)) ⟨fun _ => h.1, fun _ => rfl⟩
  · exact key 3 h.2.1 ⟨fun _ => h.1, fun _ => rfl⟩ (no (by decide) (by omega)) (no (by decide) (by omega))
  · exact key 4 h.2.1 (no (by decide) (by omega)) ⟨fun _ => h.1, fun _ => rfl⟩ (no (by decide) (by omega))
  · exact key 6 h.2.2.1 (no (by decide) (by omega)) (no (by decide) (by omega)) (no (by decide) (by omega))
  · exact key 6 h.2.1 (no (by decide) (by omega)) (no (by decide) (by omega)) (no (by decide) (by omega))
  · exact key 0 h.2 (no (by decide) (by omega)) (no (by decide) (by omega)) (no (by decide) (by omega))
  · exact key 7 h.2 (no (by decide) (by omega)) (no (by decide) (by omega)) (no (by decide) (by omega))
theorem tk_txt (h : tk_g T L p = 17) : (tk_c T L p).length ≤ 40 ∧ ∀ x ∈ tk_c T L p, ch_ok x := by
  have hg : (tk_at T L (tk_s T L p)).1 = 17 := h
  show (tk_at T L (tk_s T L p)).2.2.2.length ≤ 40 ∧ ∀ x ∈ (tk_at T L (tk_s T L p)).2.2.2, ch_ok x
  generalize tk_s T L p = s at hg ⊢
  unfold tk_at at hg ⊢
  by_cases h1 : L ≤ s
  · rw [if_pos h1] at hg; exact absurd hg (show ¬ (33 : Nat) = 17 by decide)
  · rw [if_neg h1] at hg ⊢
    by_cases h2 : sc_let (T s)
    · rw [if_pos h2] at hg
      have := ofWord_le (T := T) s (sc_word T L (L - s) s)
      have hg' : sc_ofWord T s (sc_word T L (L - s) s) = 17 := hg
      have hw : sc_ofWord T s (sc_word T L (L - s) s) ≤ 15 ∨ sc_ofWord T s (sc_word T L (L - s) s) = 34 := by
        unfold sc_ofWord
        split
        · exact Or.inr rfl
        · exact Or.inl (idx_le9 sc_words)
      omega
    · rw [if_neg h2] at hg ⊢
      by_cases h3 : sc_dig (T s)
      · rw [if_pos h3] at hg
        by_cases hv : 9007199254740991 < (sc_int T L (L - s) 0 s).1
        · rw [if_pos hv] at hg; exact absurd hg (show ¬ (34 : Nat) = 17 by decide)
        · rw [if_neg hv] at hg; exact absurd hg (show ¬ (16 : Nat) = 17 by decide)
      · rw [if_neg h3] at hg ⊢
        by_cases h4 : T s = 39
        · rw [if_pos h4] at hg ⊢
          by_cases hv : (sc_quote T L (L - s) (s + 1)).1 = true ∧ sc_alb (sc_quote T L (L - s) (s + 1)).2.2 = true ∧ (sc_quote T L (L - s) (s + 1)).2.2.length ≤ 40
          · exact ⟨hv.2.2, fun x hx => alb_iff.mp hv.2.1 x hx⟩
          · rw [if_neg hv] at hg; exact absurd hg (show ¬ (34 : Nat) = 17 by decide)
        · rw [if_neg h4] at hg
          have := sign_not (T := T) (L := L) (s := s)
          have hg' : (sc_sign T L s).1 = 17 := hg
          omega
end MLit
