/-! ===== the scanner: integers, quoted texts, marks ===== -/
section Scan2
variable {z : State} {l : Launch} {d : Nat} {σ : Hp} {ad : Nat → Nat} {w : Wd} {Q : Outcome → Hp → Prop} {op sg : Nat → Nat} {aO aS mO mS : Nat} {T : Nat → Int32} {L : Nat}
theorem Wd.setI_setJ (w : Wd) (i f k g : Nat) (u : Int32) (v : Int64) : (w.setI i f u).setJ k g v = (w.setJ k g v).setI i f u := rfl
theorem lgc_le (v : Int64) : lg_cmp v 9007199254740991 ≤ 0 ↔ ¬ 9007199254740991 < v := by
  unfold lg_cmp
  by_cases h1 : (9007199254740991 : Int64) < v
  · rw [if_pos h1]
    exact ⟨fun q => absurd q (by decide), fun q => absurd h1 q⟩
  · rw [if_neg h1]
    refine ⟨fun _ => h1, fun _ => ?_⟩
    split <;> decide
theorem cl_int_loop (hc : CW z σ ad) (hs : gj_St z op sg aO aS mO mS) (hl : CLk w ad) (hT : w.eI 1 = T) (hL : w.I 17 21 = nI L) (hL2 : L ≤ 1000) : ∀ (n : Nat) (v : Int64) (e : Nat), e + n = L → Q (.returned none) (ov σ ad 21 (((w.setJ 17 26 (sc_int T L n v e).1).setI 17 25 (nI (sc_int T L n v e).2)).setA 17 23 (some (sg (if 9007199254740991 < (sc_int T L n v e).1 then 34 else 16))))) → Go z l mt_S_takeInteger (d + 10) 5 [.ref (ad 17)] [] (ov σ ad 21 ((w.setJ 17 26 v).setI 17 25 (nI e))) Q := by
  intro n
  have hl9 : ∀ v e, CLk ((w.setJ 17 26 v).setI 17 25 e) ad := fun v e => (hl.nf (nf_26 _ _)).nf (nf_25 _ _)
  have fin : ∀ (v : Int64) (e : Nat), Q (.returned none) (ov σ ad 21 (((w.setJ 17 26 v).setI 17 25 (nI e)).setA 17 23 (some (sg (if 9007199254740991 < v then 34 else 16))))) → (lg_cmp (((w.setJ 17 26 v).setI 17 25 (nI e)).J 17 26) 9007199254740991 ≤ 0 → Q (.returned none) (ov σ ad 21 (((w.setJ 17 26 v).setI 17 25 (nI e)).setA 17 23 (some (sg 16))))) ∧ (¬ lg_cmp (((w.setJ 17 26 v).setI 17 25 (nI e)).J 17 26) 9007199254740991 ≤ 0 → Q (.returned none) (ov σ ad 21 (((w.setJ 17 26 v).setI 17 25 (nI e)).setA 17 23 (some (sg 34))))) := fun v e k => by
    refine ⟨fun h => ?_, fun h => ?_⟩
    · have h' := (lgc_le v).mp h
      rw [if_neg h'] at k
      exact k
    · have h' : 9007199254740991 < v := Classical.byContradiction (fun q => h ((lgc_le v).mpr q))
      rw [if_pos h'] at k
      exact k
  induction n with
  | zero =>
    intro v e he k
    have q : ((w.setJ 17 26 v).setI 17 25 (nI e)).I 17 21 ≤ ((w.setJ 17 26 v).setI 17 25 (nI e)).I 17 25 := by
      show w.I 17 21 ≤ nI e
      rw [hL]; exact nI_le (by omega) (by omega)
    obtain ⟨k1, k2⟩ := fin v e k
    exact cs_S_takeInteger_5 (d := d + 1) hc hs (hl9 _ _) (fun _ => k1) (fun _ => k2) (fun h => absurd q h) (fun h => absurd q h)
  | succ n ih =>
    intro v e he k
    have q : ¬ ((w.setJ 17 26 v).setI 17 25 (nI e)).I 17 21 ≤ ((w.setJ 17 26 v).setI 17 25 (nI e)).I 17 25 := by
      show ¬ w.I 17 21 ≤ nI e
      rw [hL]; exact nI_ge (by omega) (by omega)
    have vi : vp_in (((w.setJ 17 26 v).setI 17 25 (nI e)).I 17 25) 1000 := vp_in_nI (by omega) (by omega)
    have eB : ((w.setJ 17 26 v).setI 17 25 (nI e)).eI 1 (((w.setJ 17 26 v).setI 17 25 (nI e)).I 17 25).toNatClampNeg = T e := by
      show w.eI 1 (nI e).toNatClampNeg = T e
      rw [nI_clamp (by omega), hT]
    refine cs_S_takeInteger_5 (d := d + 1) hc hs (hl9 _ _) (fun h => absurd h q) (fun h => absurd h q) (fun _ => vi) (fun _ => ?_)
    rw [eB]
    refine cl_dig (d := d) hc (fun _ => gj_nextI ?_)
    by_cases hd : sc_dig (T e)
    · rw [decide_eq_true hd]
      refine cs_S_takeInteger_28 (d := d + 1) hc hs (hl9 _ _) (fun h => absurd (show (1 : Int32) = 0 from h) (by decide)) (fun h => absurd (show (1 : Int32) = 0 from h) (by decide)) (fun _ => vi) (fun _ => ?_)
      have es : sc_int T L (n + 1) v e = sc_int T L n (if 9007199254740992 < 10 * v + (T e).toInt64 - 48 then 9007199254740992 else 10 * v + (T e).toInt64 - 48) (e + 1) := if_pos ⟨by omega, hd⟩
      rw [es] at k
      have := ih _ _ (by omega) k
      rw [eB, show ((w.setJ 17 26 v).setI 17 25 (nI e)).I 17 25 + 1 = nI (e + 1) from nI_1 e, Wd.setI_setJ, Wd.setJ_setJ, Wd.setI_setI]
      exact this
    · rw [decide_eq_false hd]
      have es : sc_int T L (n + 1) v e = (v, e) := if_neg (fun q => hd q.2)
      rw [es] at k
      obtain ⟨k1, k2⟩ := fin v e k
      exact cs_S_takeInteger_28 (d := d + 1) hc hs (hl9 _ _) (fun _ => k1) (fun _ => k2) (fun h => absurd rfl h) (fun h => absurd rfl h)
theorem chr_iff {b : Int32} : sc_chr b ↔ ¬ b < 32 ∧ ¬ 126 < b := by
  rw [Int32.not_lt, Int32.not_lt]
theorem cl_quote_end (hc : CW z σ ad) (hs : gj_St z op sg aO aS mO mS) (hl : CLk w ad) {cnt : Nat} {gd : Bool} (hcn : cnt < 2 ^ 31) (k : Q (.returned none) (ov σ ad 21 (w.setA 17 23 (some (sg (if gd = true ∧ cnt ≤ 40 then 17 else 34)))))) : Go z l mt_S_takeCharacters (d + 9) 16 [.ref (ad 17), .int (nI cnt), .int 1, .int (b2i gd), .retAddr 0] [] (ov σ ad 21 w) Q := by
  have no : ∀ P : Prop, (1 : Int32) = 0 → P := fun P h => absurd h (by decide)
  have c40 : (40 : Int32) < nI cnt ↔ 40 < cnt := nI_ltI (a := 40) (by omega) hcn
  have ka : b2i gd = 0 → Q (.returned none) (ov σ ad 21 (w.setA 17 23 (some (sg 34)))) := fun h => by
    rw [if_neg (fun q => by rw [b2i_0.mp h] at q; exact absurd q.1 (by decide))] at k
    exact k
  have kb : 40 < nI cnt → Q (.returned none) (ov σ ad 21 (w.setA 17 23 (some (sg 34)))) := fun h => by
    have := c40.mp h
    rw [if_neg (fun q => by omega)] at k
    exact k
  have kd : ¬ b2i gd = 0 → ¬ 40 < nI cnt → Q (.returned none) (ov σ ad 21 (w.setA 17 23 (some (sg 17)))) := fun h h2 => by
    have h3 : ¬ 40 < cnt := fun q => h2 (c40.mpr q)
    rw [if_pos ⟨b2i_n.mp h, by omega⟩] at k
    exact k
  exact cs_S_takeCharacters_16 (d := d) hc hs hl (fun _ h => no _ h) (fun _ _ => ka) (fun _ _ _ => kb) (fun _ _ => kd) (fun _ _ h => no _ h) (fun _ _ _ => ka) (fun _ _ _ _ => kb) (fun _ _ _ => kd) (fun _ h => no _ h) (fun _ h => no _ h) (fun _ h => no _ h) (fun _ h => no _ h) (fun _ h => no _ h) (fun _ h => no _ h) (fun _ h => no _ h) (fun _ h => no _ h) (fun _ h => no _ h) (fun _ h => no _ h) (fun _ h => no _ h) (fun _ h => no _ h) (fun _ h => no _ h) (fun _ h => no _ h) (fun _ h => no _ h) (fun _ h => no _ h) (fun _ h => no _ h) (fun _ h => no _ h) (fun _ h => no _ h) (fun _ h => no _ h)
def qu_g (r : Bool × Nat × List Int32) (gd : Bool) (cnt : Nat) : Nat := if r.1 = true ∧ gd = true ∧ sc_alb r.2.2 = true ∧ cnt + r.2.2.length ≤ 40 then 17 else 34
theorem cl_quote_loop (hc : CW z σ ad) (hs : gj_St z op sg aO aS mO mS) (hl : CLk w ad) (hT : w.eI 1 = T) (hL : w.I 17 21 = nI L) (hL2 : L ≤ 1000) : ∀ (n e cnt : Nat) (gd : Bool), L ≤ e + n → e ≤ L → cnt + (L - e) ≤ 1000 → Q (.returned none) (ov σ ad 21 ((w.setI 17 25 (nI (sc_quote T L n e).2.1)).setA 17 23 (some (sg (qu_g (sc_quote T L n e) gd cnt))))) → Go z l mt_S_takeCharacters (d + 9) 16 [.ref (ad 17), .int (nI cnt), .int 0, .int (b2i gd), .retAddr 0] [] (ov σ ad 21 (w.setI 17 25 (nI e))) Q := by
  intro n
  have hl9 : ∀ e, CLk (w.setI 17 25 e) ad := fun e => hl.nf (nf_25 _ _)
  have no : ∀ P : Prop, ¬ (0 : Int32) = 0 → P := fun P h => absurd rfl h
  have ends : ∀ (e cnt : Nat) (gd : Bool), L ≤ e → e ≤ L → Q (.returned none) (ov σ ad 21 ((w.setI 17 25 (nI e)).setA 17 23 (some (sg 34)))) → Go z l mt_S_takeCharacters (d + 9) 16 [.ref (ad 17), .int (nI cnt), .int 0, .int (b2i gd), .retAddr 0] [] (ov σ ad 21 (w.setI 17 25 (nI e))) Q := fun e cnt gd h1 h2 k => by
    have q : (w.setI 17 25 (nI e)).I 17 21 ≤ (w.setI 17 25 (nI e)).I 17 25 := by
      show w.I 17 21 ≤ nI e
      rw [hL]; exact nI_le h1 (by omega)
    exact cs_S_takeCharacters_16 (d := d) hc hs (hl9 _) (fun _ _ => k) (fun _ h => no _ h) (fun _ h => no _ h) (fun _ h => no _ h) (fun h => absurd q h) (fun h => absurd q h) (fun h => absurd q h) (fun h => absurd q h) (fun h => absurd q h) (fun h => absurd q h) (fun h => absurd q h) (fun h => absurd q h) (fun h => absurd q h) (fun h => absurd q h) (fun h => absurd q h) (fun h => absurd q h) (fun h => absurd q h) (fun h => absurd q h) (fun h => absurd q h) (fun h => absurd q h) (fun h => absurd q h) (fun h => absurd q h) (fun h => absurd q h) (fun h => absurd q h) (fun h => absurd q h) (fun h => absurd q h) (fun h => absurd q h) (fun h => absurd q h)
  induction n with
  | zero =>
    intro e cnt gd h1 h2 h3 k
    rw [show qu_g (sc_quote T L 0 e) gd cnt = 34 from if_neg (fun q => absurd (show false = true from q.1) (by decide))] at k
    exact ends e cnt gd (by omega) h2 k
  | succ n ih =>
    intro e cnt gd h1 h2 h3 k
    by_cases hle : L ≤ e
    · have es : sc_quote T L (n + 1) e = (false, e, []) := if_pos hle
      rw [es, show qu_g (false, e, []) gd cnt = 34 from if_neg (fun q => absurd (show false = true from q.1) (by decide))] at k
      exact ends e cnt gd hle h2 k
    · have q : ¬ (w.setI 17 25 (nI e)).I 17 21 ≤ (w.setI 17 25 (nI e)).I 17 25 := by
        show ¬ w.I 17 21 ≤ nI e
        rw [hL]; exact nI_ge (by omega) (by omega)
      have vi : vp_in ((w.setI 17 25 (nI e)).I 17 25) 1000 := vp_in_nI (by omega) (by omega)
      have eB : (w.setI 17 25 (nI e)).eI 1 ((w.setI 17 25 (nI e)).I 17 25).toNatClampNeg = T e := by
        show w.eI 1 (nI e).toNatClampNeg = T e
        rw [nI_clamp (by omega), hT]
      have eC : (w.setI 17 25 (nI e)).eI 1 ((w.setI 17 25 (nI e)).I 17 25 + 1).toNatClampNeg = T (e + 1) := by
        show w.eI 1 (nI e + 1).toNatClampNeg = T (e + 1)
        rw [nI_1, nI_clamp (by omega), hT]
      have eL : (w.setI 17 25 (nI e)).I 17 21 ≤ (w.setI 17 25 (nI e)).I 17 25 + 1 ↔ L ≤ e + 1 := by
        show w.I 17 21 ≤ nI e + 1 ↔ _
        rw [hL, nI_1]; exact nI_leI (by omega) (by omega)
      have clos : T e = 39 → ¬ (e + 1 < L ∧ T (e + 1) = 39) → ∀ v : Value, Go z l mt_S_takeCharacters (d + 9) 16 [.ref (ad 17), .int (nI cnt), .int 1, .int (b2i gd), v] [] (ov σ ad 21 ((w.setI 17 25 (nI e)).setI 17 25 ((w.setI 17 25 (nI e)).I 17 25 + 1))) Q := fun c1 c2 v => by
        have es : sc_quote T L (n + 1) e = (true, e + 1, []) := (if_neg hle).trans (if_pos ⟨c1, c2⟩)
        rw [es] at k
        rw [show (w.setI 17 25 (nI e)).I 17 25 + 1 = nI (e + 1) from nI_1 e, Wd.setI_setI]
        refine go_drop 4 (cl_quote_end hc hs (hl9 _) (by omega) ?_)
        have eg : qu_g (true, e + 1, []) gd cnt = if gd = true ∧ cnt ≤ 40 then 17 else 34 := by
          unfold qu_g
          by_cases hg : gd = true ∧ cnt ≤ 40
          · rw [if_pos hg, if_pos ⟨rfl, hg.1, rfl, hg.2⟩]
          · rw [if_neg hg, if_neg (fun q => hg ⟨q.2.1, q.2.2.2⟩)]
        rw [eg] at k
        exact k
      have goes : ∀ (e' : Nat) (gd' : Bool), (if T e = 39 then e + 2 else e + 1) = e' → ¬ (T e = 39 ∧ ¬ (e + 1 < L ∧ T (e + 1) = 39)) → gd' = (gd && decide (sc_chr (T e))) → ∀ v : Value, Go z l mt_S_takeCharacters (d + 9) 16 [.ref (ad 17), .int (nI cnt + 1), .int 0, .int (b2i gd'), v] [] (ov σ ad 21 (w.setI 17 25 (nI e'))) Q := fun e' gd' c1 c2 c3 v => by
        have he' : e' ≤ L ∧ e + 1 ≤ e' := by
          by_cases h39 : T e = 39
          · rw [if_pos h39] at c1
            have : e + 1 < L := Classical.byContradiction (fun q => c2 ⟨h39, fun q2 => q q2.1⟩)
            omega
          · rw [if_neg h39] at c1
            omega
        have es : sc_quote T L (n + 1) e = ((sc_quote T L n e').1, (sc_quote T L n e').2.1, T e :: (sc_quote T L n e').2.2) := by
          rw [← c1]
          exact (if_neg hle).trans (if_neg c2)
        rw [nI_1]
        refine go_drop 4 (ih e' (cnt + 1) gd' (by omega) he'.1 (by omega) ?_)
        have eg : qu_g (sc_quote T L (n + 1) e) gd cnt = qu_g (sc_quote T L n e') gd' (cnt + 1) := by
          rw [es]
          unfold qu_g
          have : ((sc_quote T L n e').1 = true ∧ gd = true ∧ sc_alb (T e :: (sc_quote T L n e').2.2) = true ∧ cnt + (T e :: (sc_quote T L n e').2.2).length ≤ 40) ↔ ((sc_quote T L n e').1 = true ∧ gd' = true ∧ sc_alb (sc_quote T L n e').2.2 = true ∧ cnt + 1 + (sc_quote T L n e').2.2.length ≤ 40) := by
            rw [c3, Bool.and_eq_true, alb_cons, Bool.and_eq_true, List.length_cons]
            constructor
            · rintro ⟨a, b, ⟨c, d⟩, e⟩
              exact ⟨a, ⟨b, c⟩, d, by omega⟩
            · rintro ⟨a, ⟨b, c⟩, d, e⟩
              exact ⟨a, b, ⟨c, d⟩, by omega⟩
          exact if_cg this
        rw [eg, es] at k
        exact k
      by_cases h39 : T e = 39
      · have n39 : ¬ ¬ T e = 39 := fun q => q h39
        by_cases hf : e + 1 < L ∧ T (e + 1) = 39
        · have ch : sc_chr (T e) := by rw [h39]; decide
          have gt : ∀ (x : Int32) (v : Value), x = b2i gd → Go z l mt_S_takeCharacters (d + 9) 16 [.ref (ad 17), .int (nI cnt + 1), .int 0, .int x, v] [] (ov σ ad 21 (((w.setI 17 25 (nI e)).setI 17 25 ((w.setI 17 25 (nI e)).I 17 25 + 1)).setI 17 25 ((w.setI 17 25 (nI e)).I 17 25 + 1 + 1))) Q := fun x v hx => by
            rw [hx, show (w.setI 17 25 (nI e)).I 17 25 + 1 = nI (e + 1) from nI_1 e, nI_1 (e + 1), Wd.setI_setI, Wd.setI_setI]
            exact goes (e + 2) gd (if_pos h39) (fun q => q.2 hf) (by rw [decide_eq_true ch, Bool.and_true]) v
          refine cs_S_takeCharacters_16 (d := d) hc hs (hl9 _) (fun h => absurd h q) (fun h => absurd h q) (fun h => absurd h q) (fun h => absurd h q) (fun _ h => no _ h) (fun _ h => no _ h) (fun _ h => no _ h) (fun _ h => no _ h) (fun _ _ => vi) (fun _ _ h => absurd (eB.trans h39) h) (fun _ _ h => absurd (eB.trans h39) h) (fun _ _ h => absurd (eB.trans h39) h) (fun _ _ h => absurd (eB.trans h39) h) (fun _ _ h => absurd (eB.trans h39) h) (fun _ _ h => absurd (eB.trans h39) h) (fun _ _ h => absurd (eB.trans h39) h) (fun _ _ h => absurd (eB.trans h39) h) (fun _ _ _ h => absurd (eL.mp h) (by omega)) (fun _ _ _ _ => ?_) (fun _ _ _ _ _ h => absurd (eB.trans h39) h) (fun _ _ _ _ _ h => absurd (eB.trans h39) h) (fun _ _ _ _ _ h => absurd (eB.trans h39) h) (fun _ _ _ _ _ h => absurd (eB.trans h39) h) (fun _ _ _ _ _ _ h => gt _ _ h.symm) (fun _ _ _ _ _ _ _ h => ?_) (fun _ _ _ _ _ _ _ _ h => ?_) (fun _ _ _ _ _ _ h _ _ => gt _ _ ?_) (fun _ _ _ _ h => absurd (eC.trans hf.2) h)
          · show vp_in (nI e + 1) 1000
            rw [nI_1]
            exact vp_in_nI (by omega) (by omega)
          · rw [eB] at h
            exact absurd h (chr_iff.mp ch).1
          · rw [eB] at h
            exact absurd h (chr_iff.mp ch).2
          · rw [b2i_n.mp h]; rfl
        · refine cs_S_takeCharacters_16 (d := d) hc hs (hl9 _) (fun h => absurd h q) (fun h => absurd h q) (fun h => absurd h q) (fun h => absurd h q) (fun _ h => no _ h) (fun _ h => no _ h) (fun _ h => no _ h) (fun _ h => no _ h) (fun _ _ => vi) (fun _ _ h => absurd (eB.trans h39) h) (fun _ _ h => absurd (eB.trans h39) h) (fun _ _ h => absurd (eB.trans h39) h) (fun _ _ h => absurd (eB.trans h39) h) (fun _ _ h => absurd (eB.trans h39) h) (fun _ _ h => absurd (eB.trans h39) h) (fun _ _ h => absurd (eB.trans h39) h) (fun _ _ h => absurd (eB.trans h39) h) (fun _ _ _ _ => clos h39 hf _) (fun _ _ _ h => ?_) (fun _ _ _ _ _ h => absurd (eB.trans h39) h) (fun _ _ _ _ _ h => absurd (eB.trans h39) h) (fun _ _ _ _ _ h => absurd (eB.trans h39) h) (fun _ _ _ _ _ h => absurd (eB.trans h39) h) (fun _ _ _ a b => absurd ⟨?_, eC.symm.trans b⟩ hf) (fun _ _ _ a b => absurd ⟨?_, eC.symm.trans b⟩ hf) (fun _ _ _ a b => absurd ⟨?_, eC.symm.trans b⟩ hf) (fun _ _ _ a b => absurd ⟨?_, eC.symm.trans b⟩ hf) (fun _ _ _ _ _ => clos h39 hf _)
          · have h' : ¬ L ≤ e + 1 := fun q => h (eL.mpr q)
            show vp_in (nI e + 1) 1000
            rw [nI_1]
            exact vp_in_nI (by omega) (by omega)
          all_goals exact Nat.lt_of_not_le (fun q => a (eL.mpr q))
      · have nB : ¬ (w.setI 17 25 (nI e)).eI 1 ((w.setI 17 25 (nI e)).I 17 25).toNatClampNeg = 39 := by rw [eB]; exact h39
        have gt : ∀ (x : Int32) (v : Value), x = b2i (gd && decide (sc_chr (T e))) → Go z l mt_S_takeCharacters (d + 9) 16 [.ref (ad 17), .int (nI cnt + 1), .int 0, .int x, v] [] (ov σ ad 21 ((w.setI 17 25 (nI e)).setI 17 25 ((w.setI 17 25 (nI e)).I 17 25 + 1))) Q := fun x v hx => by
          rw [hx, show (w.setI 17 25 (nI e)).I 17 25 + 1 = nI (e + 1) from nI_1 e, Wd.setI_setI]
          exact goes (e + 1) _ (if_neg h39) (fun q => h39 q.1) rfl v
        refine cs_S_takeCharacters_16 (d := d) hc hs (hl9 _) (fun h => absurd h q) (fun h => absurd h q) (fun h => absurd h q) (fun h => absurd h q) (fun _ h => no _ h) (fun _ h => no _ h) (fun _ h => no _ h) (fun _ h => no _ h) (fun _ _ => vi) (fun _ _ _ _ h => gt _ _ ?_) (fun _ _ _ _ h h2 => gt _ _ ?_) (fun _ _ _ _ h _ h2 => gt _ _ ?_) (fun _ _ _ _ h h2 h3 => gt _ _ ?_) (fun _ _ _ h => absurd h nB) (fun _ _ _ h => absurd h nB) (fun _ _ _ h => absurd h nB) (fun _ _ _ h => absurd h nB) (fun _ _ h => absurd h nB) (fun _ _ h => absurd h nB) (fun _ _ h => absurd h nB) (fun _ _ h => absurd h nB) (fun _ _ h => absurd h nB) (fun _ _ h => absurd h nB) (fun _ _ h => absurd h nB) (fun _ _ h => absurd h nB) (fun _ _ h => absurd h nB) (fun _ _ h => absurd h nB) (fun _ _ h => absurd h nB)
        · rw [b2i_0.mp h]; rfl
        · rw [eB] at h2
          rw [decide_eq_false (fun q => (chr_iff.mp q).1 h2), Bool.and_false]; rfl
        · rw [eB] at h2
          rw [decide_eq_false (fun q => (chr_iff.mp q).2 h2), Bool.and_false]; rfl
        · rw [eB] at h2 h3
          rw [decide_eq_true (chr_iff.mpr ⟨h2, h3⟩), b2i_n.mp h]; rfl
theorem cl_fol {p : Nat} {c : Int32} (hc : CW z σ ad) (hl : CLk w ad) (hT : w.eI 1 = T) (hL : w.I 17 21 = nI L) (hL2 : L ≤ 1000) (hp : w.I 17 22 = nI p) (hpL : p < L) (ky : (p + 1 < L ∧ T (p + 1) = c) → Q (.returned (some (.int 1))) (ov σ ad 21 w)) (kn : ¬ (p + 1 < L ∧ T (p + 1) = c) → Q (.returned (some (.int 0))) (ov σ ad 21 w)) : Go z l mt_S_followedBy (d + 9) 0 [.ref (ad 17), .int c] [] (ov σ ad 21 w) Q := by
  have eL : w.I 17 21 ≤ w.I 17 22 + 1 ↔ L ≤ p + 1 := by
    rw [hL, hp, nI_1]; exact nI_leI (by omega) (by omega)
  have eC : w.eI 1 (w.I 17 22 + 1).toNatClampNeg = T (p + 1) := by rw [hp, nI_1, nI_clamp (by omega), hT]
  refine cs_S_followedBy (d := d) hc hl (fun h => kn (fun q => ?_)) (fun h => ?_) (fun _ h => kn (fun q => h (eC.trans q.2))) (fun h h2 => ky ⟨?_, eC.symm.trans h2⟩)
  · have := eL.mp h
    omega
  · have h' : ¬ L ≤ p + 1 := fun q => h (eL.mpr q)
    rw [hp, nI_1]
    exact vp_in_nI (by omega) (by omega)
  · exact Nat.lt_of_not_le (fun q => h (eL.mpr q))
theorem mk_small (b : Int32) : sc_mark b < 35 ∧ sc_mark b ≠ 19 ∧ sc_mark b ≠ 21 ∧ sc_mark b ≠ 23 ∧ (sc_mark b = 20 → b = 60) ∧ (sc_mark b = 22 → b = 62) ∧ (sc_mark b = 26 → b = 124) := by
  unfold sc_mark
  repeat' split
  all_goals simp_all
theorem cl_mark {p : Nat} (hc : CW z σ ad) (hs : gj_St z op sg aO aS mO mS) (hl : CLk w ad) (hT : w.eI 1 = T) (hL : w.I 17 21 = nI L) (hL2 : L ≤ 1000) (hp : w.I 17 22 = nI p) (hpL : p < L) (k : Q (.returned none) (ov σ ad 21 ((w.setA 17 23 (some (sg (sc_sign T L p).1))).setI 17 25 (nI (sc_sign T L p).2)))) : Go z l mt_S_takeMark (d + 10) 0 [.ref (ad 17), .int (T p), .retAddr 0] [] (ov σ ad 21 w) Q := by
  have sne : ∀ {i j : Nat}, i < 35 → j < 35 → i ≠ j → ¬ some (sg i) = some (sg j) := fun hi hj hn q => hn (sg_inj hs hi hj q)
  have e2 : w.I 17 22 + 2 = nI (p + 2) := by rw [hp]; exact pk_add
  have e1 : w.I 17 22 + 1 = nI (p + 1) := by rw [hp]; exact nI_1 p
  have hl9 : ∀ g, CLk (w.setA 17 23 g) ad := fun g => hl.nf (nf_23 _ _)
  have base : Go z l mt_S_takeMark (d + 10) 5 [.ref (ad 17), .int (T p), .retAddr 0] [.ref (sg (sc_mark (T p))), .ref (ad 17)] (ov σ ad 21 w) Q := by
    obtain ⟨m0, m1, m2, m3, m4, m5, m6⟩ := mk_small (T p)
    by_cases h60 : T p = 60
    · have em : sc_mark (T p) = 20 := by rw [h60]; decide
      rw [em]
      refine cs_S_takeMark_5 (d := d + 1) hc hs (fun h => absurd rfl h) (fun h => absurd rfl h) (fun h => absurd rfl h) (fun h => absurd rfl h) (fun h => absurd rfl h) (fun h => absurd rfl h) (fun h => absurd rfl h) (fun h => absurd rfl h) (fun _ => ?_)
      refine cl_fol (d := d) hc (hl9 _) hT hL hL2 hp hpL (fun h _ => gj_nextI ?_) (fun h _ => gj_nextI ?_)
      · have es : sc_sign T L p = (19, p + 2) := if_pos ⟨h60, h⟩
        rw [es] at k
        refine cs_S_takeMark_24 (d := d + 1) (sk := 20) hc hs rfl (fun q => absurd (show (1 : Int32) = 0 from q) (by decide)) (fun q => absurd (show (1 : Int32) = 0 from q) (by decide)) (fun q => absurd (show (1 : Int32) = 0 from q) (by decide)) (fun q => absurd (show (1 : Int32) = 0 from q) (by decide)) (fun q => absurd (show (1 : Int32) = 0 from q) (by decide)) (fun q => absurd (show (1 : Int32) = 0 from q) (by decide)) (fun q => absurd (show (1 : Int32) = 0 from q) (by decide)) (fun q => absurd (show (1 : Int32) = 0 from q) (by decide)) (fun _ _ => ?_) (fun _ h => absurd rfl h) (fun _ h => absurd rfl h) (fun _ h => absurd rfl h) (fun _ h => absurd rfl h)
        rw [Wd.setA_setA, show (w.setA 17 23 (some (sg 20))).I 17 22 + 2 = nI (p + 2) from e2]
        exact k
      · have n1 : ¬ (T p = 60 ∧ p + 1 < L ∧ T (p + 1) = 62) := fun q => h q.2
        refine cs_S_takeMark_24 (d := d + 1) (sk := 20) hc hs rfl (fun _ h => absurd rfl h) (fun _ h => absurd rfl h) (fun _ h => absurd rfl h) (fun _ h => absurd rfl h) (fun _ h => absurd rfl h) (fun _ h => absurd rfl h) (fun _ h => absurd rfl h) (fun _ _ => ?_) (fun q => absurd rfl q) (fun q => absurd rfl q) (fun q => absurd rfl q) (fun q => absurd rfl q) (fun q => absurd rfl q)
        refine cl_fol (d := d) hc (hl9 _) hT hL hL2 hp hpL (fun h2 _ => gj_nextI ?_) (fun h2 _ => gj_nextI ?_)
        · have es : sc_sign T L p = (21, p + 2) := (if_neg n1).trans (if_pos ⟨h60, h2⟩)
          rw [es] at k
          refine cs_S_takeMark_53 (d := d + 1) (sk := 20) hc hs rfl (fun q => absurd (show (1 : Int32) = 0 from q) (by decide)) (fun q => absurd (show (1 : Int32) = 0 from q) (by decide)) (fun q => absurd (show (1 : Int32) = 0 from q) (by decide)) (fun q => absurd (show (1 : Int32) = 0 from q) (by decide)) (fun q => absurd (show (1 : Int32) = 0 from q) (by decide)) (fun q => absurd (show (1 : Int32) = 0 from q) (by decide)) (fun q => absurd (show (1 : Int32) = 0 from q) (by decide)) (fun _ h => absurd h (sne (by decide) (by decide) (by decide))) (fun _ _ _ => ?_) (fun _ _ h => absurd rfl h) (fun _ _ h => absurd rfl h) (fun _ _ h => absurd rfl h)
          rw [Wd.setA_setA, show (w.setA 17 23 (some (sg 20))).I 17 22 + 2 = nI (p + 2) from e2]
          exact k
        · have n2 : ¬ (T p = 60 ∧ p + 1 < L ∧ T (p + 1) = 61) := fun q => h2 q.2
          have es : sc_sign T L p = (20, p + 1) := (if_neg n1).trans ((if_neg n2).trans ((if_neg (fun q => by rw [h60] at q; exact absurd q.1 (by decide))).trans ((if_neg (by rw [h60]; decide)).trans (by rw [em]))))
          rw [es] at k
          refine cs_S_takeMark_53 (d := d + 1) (sk := 20) hc hs rfl (fun _ _ _ h => absurd h (sne (by decide) (by decide) (by decide))) (fun _ _ _ _ h => absurd h (sne (by decide) (by decide) (by decide))) (fun _ _ _ _ _ h => absurd h (sne (by decide) (by decide) (by decide))) (fun _ _ _ _ _ _ _ => ?_) (fun _ _ _ _ _ _ h => absurd h (sne (by decide) (by decide) (by decide))) (fun _ _ h => absurd h (sne (by decide) (by decide) (by decide))) (fun _ h => absurd h (sne (by decide) (by decide) (by decide))) (fun q => absurd rfl q) (fun q => absurd rfl q) (fun q => absurd rfl q) (fun q => absurd rfl q) (fun q => absurd rfl q)
          rw [show (w.setA 17 23 (some (sg 20))).I 17 22 + 1 = nI (p + 1) from e1]
          exact k
    · have n1 : ¬ (T p = 60 ∧ p + 1 < L ∧ T (p + 1) = 62) := fun q => h60 q.1
      have n2 : ¬ (T p = 60 ∧ p + 1 < L ∧ T (p + 1) = 61) := fun q => h60 q.1
      have q20 : sc_mark (T p) ≠ 20 := fun q => h60 (m4 q)
      by_cases h62 : T p = 62
      · have em : sc_mark (T p) = 22 := by rw [h62]; decide
        rw [em]
        refine cs_S_takeMark_5 (d := d + 1) hc hs (fun _ _ h => absurd rfl h) (fun _ _ h => absurd rfl h) (fun _ _ h => absurd rfl h) (fun _ _ h => absurd rfl h) (fun _ _ h => absurd rfl h) (fun _ _ h => absurd rfl h) (fun _ _ _ => ?_) (fun _ h => absurd h (sne (by decide) (by decide) (by decide))) (fun h => absurd h (sne (by decide) (by decide) (by decide)))
        refine cl_fol (d := d) hc (hl9 _) hT hL hL2 hp hpL (fun h _ => gj_nextI ?_) (fun h _ => gj_nextI ?_)
        · have es : sc_sign T L p = (23, p + 2) := (if_neg n1).trans ((if_neg n2).trans (if_pos ⟨h62, h⟩))
          rw [es] at k
          refine cs_S_takeMark_82 (d := d + 1) (sk := 22) hc hs rfl (fun q => absurd (show (1 : Int32) = 0 from q) (by decide)) (fun q => absurd (show (1 : Int32) = 0 from q) (by decide)) (fun q => absurd (show (1 : Int32) = 0 from q) (by decide)) (fun q => absurd (show (1 : Int32) = 0 from q) (by decide)) (fun q => absurd (show (1 : Int32) = 0 from q) (by decide)) (fun q => absurd (show (1 : Int32) = 0 from q) (by decide)) (fun _ h => absurd h (sne (by decide) (by decide) (by decide))) (fun _ _ h => absurd h (sne (by decide) (by decide) (by decide))) (fun _ _ _ _ => ?_) (fun _ _ _ h => absurd rfl h) (fun _ _ _ h => absurd rfl h)
          rw [Wd.setA_setA, show (w.setA 17 23 (some (sg 22))).I 17 22 + 2 = nI (p + 2) from e2]
          exact k
        · have n3 : ¬ (T p = 62 ∧ p + 1 < L ∧ T (p + 1) = 61) := fun q => h q.2
          have es : sc_sign T L p = (22, p + 1) := (if_neg n1).trans ((if_neg n2).trans ((if_neg n3).trans ((if_neg (by rw [h62]; decide)).trans (by rw [em]))))
          rw [es] at k
          refine cs_S_takeMark_82 (d := d + 1) (sk := 22) hc hs rfl (fun _ _ h => absurd h (sne (by decide) (by decide) (by decide))) (fun _ _ _ h => absurd h (sne (by decide) (by decide) (by decide))) (fun _ _ _ _ h => absurd h (sne (by decide) (by decide) (by decide))) (fun _ _ _ _ _ _ => ?_) (fun _ _ _ _ _ h => absurd h (sne (by decide) (by decide) (by decide))) (fun _ h => absurd h (sne (by decide) (by decide) (by decide))) (fun q => absurd rfl q) (fun q => absurd rfl q) (fun q => absurd rfl q) (fun q => absurd rfl q) (fun q => absurd rfl q)
          rw [show (w.setA 17 23 (some (sg 22))).I 17 22 + 1 = nI (p + 1) from e1]
          exact k
      · have n3 : ¬ (T p = 62 ∧ p + 1 < L ∧ T (p + 1) = 61) := fun q => h62 q.1
        have q22 : sc_mark (T p) ≠ 22 := fun q => h62 (m5 q)
        by_cases h124 : T p = 124
        · have em : sc_mark (T p) = 26 := by rw [h124]; decide
          rw [em]
          refine cs_S_takeMark_5 (d := d + 1) hc hs (fun _ _ _ h => absurd rfl h) (fun _ _ _ h => absurd rfl h) (fun _ _ _ h => absurd rfl h) (fun _ _ _ h => absurd rfl h) (fun _ _ _ h => absurd rfl h) (fun _ _ _ _ => ?_) (fun _ _ h => absurd h (sne (by decide) (by decide) (by decide))) (fun _ h => absurd h (sne (by decide) (by decide) (by decide))) (fun h => absurd h (sne (by decide) (by decide) (by decide)))
          refine cl_fol (d := d) hc (hl9 _) hT hL hL2 hp hpL (fun h _ => gj_nextI ?_) (fun h _ => gj_nextI ?_)
          · have es : sc_sign T L p = (26, p + 2) := (if_neg n1).trans ((if_neg n2).trans ((if_neg n3).trans ((if_pos h124).trans (if_pos h))))
            rw [es] at k
            refine cs_S_takeMark_111 (d := d + 1) (sk := 26) hc hs rfl (fun _ h => absurd h (sne (by decide) (by decide) (by decide))) (fun _ _ h => absurd h (sne (by decide) (by decide) (by decide))) (fun _ _ _ h => absurd h (sne (by decide) (by decide) (by decide))) (fun _ _ _ _ h => absurd rfl h) (fun _ _ _ _ _ => ?_) (fun q => absurd (show (1 : Int32) = 0 from q) (by decide)) (fun q => absurd (show (1 : Int32) = 0 from q) (by decide)) (fun q => absurd (show (1 : Int32) = 0 from q) (by decide)) (fun q => absurd (show (1 : Int32) = 0 from q) (by decide)) (fun q => absurd (show (1 : Int32) = 0 from q) (by decide))
            rw [show (w.setA 17 23 (some (sg 26))).I 17 22 + 2 = nI (p + 2) from e2]
            exact k
          · have es : sc_sign T L p = (34, p + 1) := (if_neg n1).trans ((if_neg n2).trans ((if_neg n3).trans ((if_pos h124).trans (if_neg h))))
            rw [es] at k
            refine cs_S_takeMark_111 (d := d + 1) (sk := 26) hc hs rfl (fun q => absurd rfl q) (fun q => absurd rfl q) (fun q => absurd rfl q) (fun q => absurd rfl q) (fun q => absurd rfl q) (fun _ h => absurd h (sne (by decide) (by decide) (by decide))) (fun _ _ h => absurd h (sne (by decide) (by decide) (by decide))) (fun _ _ _ h => absurd h (sne (by decide) (by decide) (by decide))) (fun _ _ _ _ _ => ?_) (fun _ _ _ _ h => absurd h (sne (by decide) (by decide) (by decide)))
            rw [Wd.setA_setA, show (w.setA 17 23 (some (sg 26))).I 17 22 + 1 = nI (p + 1) from e1]
            exact k
        · have q26 : sc_mark (T p) ≠ 26 := fun q => h124 (m6 q)
          have es : sc_sign T L p = (sc_mark (T p), p + 1) := (if_neg n1).trans ((if_neg n2).trans ((if_neg n3).trans (if_neg h124)))
          rw [es] at k
          refine cs_S_takeMark_5 (d := d + 1) hc hs (fun _ _ _ _ h => absurd h (sne m0 (by decide) m1)) (fun _ _ _ _ _ h => absurd h (sne m0 (by decide) m2)) (fun _ _ _ _ _ _ h => absurd h (sne m0 (by decide) m3)) (fun _ _ _ _ _ _ _ _ => ?_) (fun _ _ _ _ _ _ _ h => absurd h (sne m0 (by decide) q26)) (fun _ _ _ h => absurd h (sne m0 (by decide) q26)) (fun _ _ h => absurd h (sne m0 (by decide) q22)) (fun _ h => absurd h (sne m0 (by decide) q20)) (fun h => absurd h (sne m0 (by decide) q20))
          rw [e1]
          exact k
  have fin : ∀ {g : Nat}, sc_mark (T p) = g → Go z l mt_S_takeMark (d + 10) 5 [.ref (ad 17), .int (T p), .retAddr 0] [.ref (sg g), .ref (ad 17)] (ov σ ad 21 w) Q := fun h => by rw [← h]; exact base
  refine cs_S_takeMark (d := d + 1) hc (cs_S_markOf (d := d) hc hs (fun a _ => gj_nextI (fin ?_)) (fun _ a _ => gj_nextI (fin ?_)) (fun _ _ a _ => gj_nextI (fin ?_)) (fun _ _ _ a _ => gj_nextI (fin ?_)) (fun _ _ _ _ a _ => gj_nextI (fin ?_)) (fun _ _ _ _ _ a _ => gj_nextI (fin ?_)) (fun _ _ _ _ _ _ a _ => gj_nextI (fin ?_)) (fun _ _ _ _ _ _ _ a _ => gj_nextI (fin ?_)) (fun _ _ _ _ _ _ _ _ a _ => gj_nextI (fin ?_)) (fun _ _ _ _ _ _ _ _ _ a _ => gj_nextI (fin ?_)) (fun _ _ _ _ _ _ _ _ _ _ a _ => gj_nextI (fin ?_)) (fun _ _ _ _ _ _ _ _ _ _ _ a _ => gj_nextI (fin ?_)) (fun a1 a2 a3 a4 a5 a6 a7 a8 a9 a10 a11 a12 _ => gj_nextI (fin ?_)))
  all_goals first
    | (rw [a]; decide)
    | simp [sc_mark, a1, a2, a3, a4, a5, a6, a7, a8, a9, a10, a11, a12]
end Scan2
