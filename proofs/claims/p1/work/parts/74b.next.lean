/-! ===== the scanner: the next sign ===== -/
/-- the sign that stands: it comes behind the place p -/
def TK (sg : Nat → Nat) (T : Nat → Int32) (L : Nat) (w : Wd) (p : Nat) : Prop := w.I 17 22 = nI (tk_e T L p) ∧ w.I 17 24 = nI (tk_s T L p) ∧ w.I 17 25 = nI (tk_e T L p) ∧ w.A 17 23 = some (sg (tk_g T L p)) ∧ (tk_g T L p = 16 → w.J 17 26 = tk_n T L p)
section Next
variable {z : State} {l : Launch} {d : Nat} {σ : Hp} {ad : Nat → Nat} {w : Wd} {Q : Outcome → Hp → Prop} {op sg : Nat → Nat} {aO aS mO mS : Nat} {T : Nat → Int32} {L : Nat}
theorem cl_word_loop {s : Nat} (hc : CW z σ ad) (hs : gj_St z op sg aO aS mO mS) (hw : WSt z σ op sg L) (hl : CLk w ad) (hT : w.eI 1 = T) (hL : w.I 17 21 = nI L) (hL2 : L ≤ 1000) (h24 : w.I 17 24 = nI s) : ∀ (n e : Nat), e + n = L → s ≤ e → s < sc_word T L n e → Q (.returned none) (ov σ ad 21 ((w.setI 17 25 (nI (sc_word T L n e))).setA 17 23 (some (sg (sc_ofWord T s (sc_word T L n e)))))) → Go z l mt_S_takeWord (d + 19) 0 [.ref (ad 17)] [] (ov σ ad 21 (w.setI 17 25 (nI e))) Q := by
  intro n
  have hl9 : ∀ e, CLk (w.setI 17 25 e) ad := fun e => hl.nf (nf_25 _ _)
  -- the word is done
  have fin : ∀ e, e ≤ L → s < e → Q (.returned none) (ov σ ad 21 ((w.setI 17 25 (nI e)).setA 17 23 (some (sg (sc_ofWord T s e))))) → (((w.setI 17 25 (nI e)).I 17 25 - (w.setI 17 25 (nI e)).I 17 24) ≤ 20 → Go z l mt_Z_ofWord (d + 18) 0 [.ref (ad 1), .int ((w.setI 17 25 (nI e)).I 17 24), .int ((w.setI 17 25 (nI e)).I 17 25), .retAddr 0] [] (ov σ ad 21 (w.setI 17 25 (nI e))) (fun o σ1 => hp_Le (ov σ ad 21 (w.setI 17 25 (nI e))) σ1 → gj_next z l mt_S_takeWord (d + 19) 87 [.ref (ad 17)] [.ref (ad 17)] Q o σ1)) ∧ (¬ ((w.setI 17 25 (nI e)).I 17 25 - (w.setI 17 25 (nI e)).I 17 24) ≤ 20 → Q (.returned none) (ov σ ad 21 ((w.setI 17 25 (nI e)).setA 17 23 (some (sg 34))))) := fun e he hse k => by
    have e20 : ((w.setI 17 25 (nI e)).I 17 25 - (w.setI 17 25 (nI e)).I 17 24) ≤ 20 ↔ e - s ≤ 20 := by
      show nI e - w.I 17 24 ≤ 20 ↔ _
      rw [h24, pk_sub (by omega)]
      exact nI_leI (b := 20) (by omega) (by omega)
    refine ⟨fun h => ?_, fun h => ?_⟩
    · have h' := e20.mp h
      rw [sc_ofWord, if_neg (by omega)] at k
      show Go z l mt_Z_ofWord (d + 18) 0 [.ref (ad 1), .int (w.I 17 24), .int (nI e), .retAddr 0] [] _ _
      rw [h24]
      exact cz_ofWord (d := d) hc hs hw hT hse (by omega) (fun _ => gj_nextI (cs_S_takeWord_90 (d := d + 10) hc hs k))
    · have h' : ¬ e - s ≤ 20 := fun q => h (e20.mpr q)
      rw [sc_ofWord, if_pos (by omega)] at k
      exact k
  induction n with
  | zero =>
    intro e he hse hlt k
    have q : (w.setI 17 25 (nI e)).I 17 21 ≤ (w.setI 17 25 (nI e)).I 17 25 := by
      show w.I 17 21 ≤ nI e
      rw [hL]; exact nI_le (by omega) (by omega)
    obtain ⟨k1, k2⟩ := fin e (by omega) hlt k
    exact cs_S_takeWord_0 (d := d + 10) hc hs (hl9 _) (fun _ => k1) (fun _ => k2) (fun h => absurd q h) (fun h => absurd q h)
  | succ n ih =>
    intro e he hse hlt k
    have q : ¬ (w.setI 17 25 (nI e)).I 17 21 ≤ (w.setI 17 25 (nI e)).I 17 25 := by
      show ¬ w.I 17 21 ≤ nI e
      rw [hL]; exact nI_ge (by omega) (by omega)
    have vi : vp_in ((w.setI 17 25 (nI e)).I 17 25) 1000 := vp_in_nI (by omega) (by omega)
    have eB : (w.setI 17 25 (nI e)).eI 1 ((w.setI 17 25 (nI e)).I 17 25).toNatClampNeg = T e := by
      show w.eI 1 (nI e).toNatClampNeg = T e
      rw [nI_clamp (by omega), hT]
    have goon : (sc_let (T e) ∨ sc_dig (T e)) → Go z l mt_S_takeWord (d + 19) 0 [.ref (ad 17)] [] (ov σ ad 21 ((w.setI 17 25 (nI e)).setI 17 25 ((w.setI 17 25 (nI e)).I 17 25 + 1))) Q := fun h => by
      have es : sc_word T L (n + 1) e = sc_word T L n (e + 1) := if_pos ⟨by omega, h⟩
      rw [es] at hlt k
      rw [show (w.setI 17 25 (nI e)).I 17 25 + 1 = nI (e + 1) from nI_1 e, Wd.setI_setI]
      exact ih (e + 1) (by omega) (by omega) hlt k
    refine cs_S_takeWord_0 (d := d + 10) hc hs (hl9 _) (fun h => absurd h q) (fun h => absurd h q) (fun _ => vi) (fun _ => ?_)
    rw [eB]
    refine cl_let (d := d + 9) hc (fun _ => gj_nextI (cs_S_takeWord_23 (d := d + 10) hc (hl9 _) (fun h => goon (.inl (of_decide_eq_true (b2i_n.mp h)))) (fun _ => vi) (fun h => ?_)))
    have hnl := of_decide_eq_false (b2i_0.mp h)
    rw [eB]
    refine cl_dig (d := d + 9) hc (fun _ => gj_nextI ?_)
    by_cases hd : sc_dig (T e)
    · rw [decide_eq_true hd]
      exact cs_S_takeWord_38 (d := d + 10) hc hs (hl9 _) (fun h => absurd (show (1 : Int32) = 0 from h) (by decide)) (fun h => absurd (show (1 : Int32) = 0 from h) (by decide)) (fun _ => goon (.inr hd))
    · rw [decide_eq_false hd]
      have es : sc_word T L (n + 1) e = e := if_neg (fun q => by
        rcases q.2 with q | q
        · exact hnl q
        · exact hd q)
      rw [es] at hlt k
      obtain ⟨k1, k2⟩ := fin e (by omega) hlt k
      exact cs_S_takeWord_38 (d := d + 10) hc hs (hl9 _) (fun _ => k1) (fun _ => k2) (fun h => absurd rfl h)
theorem cl_next {p : Nat} (hc : CW z σ ad) (hs : gj_St z op sg aO aS mO mS) (hw : WSt z σ op sg L) (hl : CLk w ad) (hT : w.eI 1 = T) (hL : w.I 17 21 = nI L) (hL2 : L ≤ 1000) (hp : w.I 17 22 = nI p) (hpL : p ≤ L) (k : ∀ w', NF w w' → TK sg T L w' p → Q (.returned none) (ov σ ad 21 w')) : Go z l mt_S_next (d + 20) 0 [.ref (ad 17), .retAddr 0] [] (ov σ ad 21 w) Q := by
  have hsk := tk_s_le (T := T) hpL
  refine cs_S_next (d := d + 11) hc (cl_skip (d := d + 10) hc hl hT hL hL2 hp hpL (fun _ => gj_nextV ?_))
  obtain ⟨s, es⟩ : ∃ s, tk_s T L p = s := ⟨_, rfl⟩
  rw [es] at hsk ⊢
  have N1 : NF w (w.setI 17 22 (nI s)) := nf_22 _ _
  have N2 : NF w (((w.setI 17 22 (nI s)).setI 17 24 (nI s)).setI 17 25 (nI s)) := N1.trans ((nf_24 _ _).trans (nf_25 _ _))
  have hl2 : CLk (((w.setI 17 22 (nI s)).setI 17 24 (nI s)).setI 17 25 (nI s)) ad := hl.nf N2
  have q : (w.setI 17 22 (nI s)).I 17 22 < (w.setI 17 22 (nI s)).I 17 21 ↔ s < L := by
    show nI s < w.I 17 21 ↔ _
    rw [hL]; exact nI_ltI (by omega) (by omega)
  have eB : (w.setI 17 22 (nI s)).eI 1 ((w.setI 17 22 (nI s)).I 17 22).toNatClampNeg = T s := by
    show w.eI 1 (nI s).toNatClampNeg = T s
    rw [nI_clamp (by omega), hT]
  -- the end: place behind the sign
  have fin : ∀ (w3 : Wd) (g e : Nat) (x : Int64) (cs : List Int32), NF w w3 → tk_at T L s = (g, e, x, cs) → w3.I 17 24 = nI s → w3.I 17 25 = nI e → w3.A 17 23 = some (sg g) → (g = 16 → w3.J 17 26 = x) → Q (.returned none) (ov σ ad 21 (w3.setI 17 22 (w3.I 17 25))) := fun w3 g e x cs f3 ht h24 h25 h23 h26 => by
    refine k _ (f3.trans (nf_22 _ _)) ⟨?_, ?_, ?_, ?_, ?_⟩
    · show w3.I 17 25 = nI (tk_at T L (tk_s T L p)).2.1
      rw [es, ht]; exact h25
    · show w3.I 17 24 = nI (tk_s T L p)
      rw [es]; exact h24
    · show w3.I 17 25 = nI (tk_at T L (tk_s T L p)).2.1
      rw [es, ht]; exact h25
    · show w3.A 17 23 = some (sg (tk_at T L (tk_s T L p)).1)
      rw [es, ht]; exact h23
    · show (tk_at T L (tk_s T L p)).1 = 16 → w3.J 17 26 = (tk_at T L (tk_s T L p)).2.2.1
      rw [es, ht]; exact h26
  refine cs_S_next_4 (d := d + 11) hc hs (hl.nf N1) (fun h => vp_in_nI (n := s) (by have := q.mp h; omega) (by omega)) (fun h => ?_) (fun h => ?_)
  · have hsL := q.mp h
    have hnl : ¬ L ≤ s := by omega
    rw [eB]
    show Go z l mt_S_isLetter (d + 19) 0 [.int (T s)] [] (ov σ ad 21 (((w.setI 17 22 (nI s)).setI 17 24 (nI s)).setI 17 25 (nI s))) _
    refine cl_let (d := d + 10) hc (fun _ => gj_nextI ?_)
    by_cases h1 : sc_let (T s)
    · rw [decide_eq_true h1]
      refine cs_S_next_53 (d := d + 11) hc (fun h => absurd (show (1 : Int32) = 0 from h) (by decide)) (fun _ => ?_)
      have hw9 : s < sc_word T L (L - s) s := by
        have e1 : sc_word T L (L - s) s = sc_word T L (L - s - 1) (s + 1) := by
          obtain ⟨n, hn⟩ : ∃ n, L - s = n + 1 := ⟨L - s - 1, by omega⟩
          rw [hn, Nat.add_sub_cancel]
          exact if_pos ⟨by omega, .inl h1⟩
        have := (word_le (T := T) (L := L) (L - s - 1) (s + 1)).1
        omega
      refine cl_word_loop (d := d) (w := (w.setI 17 22 (nI s)).setI 17 24 (nI s)) (s := s) hc hs hw (hl.nf (N1.trans (nf_24 _ _))) hT hL hL2 rfl (L - s) s (by omega) (Nat.le_refl _) hw9 (fun _ => gj_nextV (cs_S_next_60 (d := d + 11) hc ?_))
      exact fin _ (sc_ofWord T s (sc_word T L (L - s) s)) (sc_word T L (L - s) s) 0 [] (N1.trans ((nf_24 _ _).trans ((nf_25 _ _).trans (nf_23 _ _)))) ((if_neg hnl).trans (if_pos h1)) rfl rfl rfl (fun q => absurd q ofWord_not.1)
    · rw [decide_eq_false h1]
      refine cs_S_next_53 (d := d + 11) hc (fun _ => ?_) (fun h => absurd rfl h)
      refine cl_dig (d := d + 10) hc (fun _ => gj_nextI ?_)
      by_cases h2 : sc_dig (T s)
      · rw [decide_eq_true h2]
        refine cs_S_next_67 (d := d + 11) hc (fun h => absurd (show (1 : Int32) = 0 from h) (by decide)) (fun h => absurd (show (1 : Int32) = 0 from h) (by decide)) (fun _ => ?_)
        refine cs_S_takeInteger (d := d + 10) hc ?_
        refine cl_int_loop (d := d + 9) (w := (w.setI 17 22 (nI s)).setI 17 24 (nI s)) hc hs (hl.nf (N1.trans (nf_24 _ _))) hT hL hL2 (L - s) 0 s (by omega) (fun _ => gj_nextV (cs_S_next_74 (d := d + 11) hc ?_))
        exact fin _ (if 9007199254740991 < (sc_int T L (L - s) 0 s).1 then 34 else 16) (sc_int T L (L - s) 0 s).2 (sc_int T L (L - s) 0 s).1 [] (N1.trans ((nf_24 _ _).trans ((nf_26 _ _).trans ((nf_25 _ _).trans (nf_23 _ _))))) ((if_neg hnl).trans ((if_neg h1).trans (if_pos h2))) rfl rfl rfl (fun _ => rfl)
      · rw [decide_eq_false h2]
        by_cases h3 : T s = 39
        · refine cs_S_next_67 (d := d + 11) hc (fun _ h => absurd h3 h) (fun _ _ => ?_) (fun h => absurd rfl h)
          refine cs_S_takeCharacters (d := d + 10) hc ?_
          show Go z l mt_S_takeCharacters (d + 19) 16 [.ref (ad 17), .int 0, .int 0, .int 1, .retAddr 0] [] (ov σ ad 21 ((((w.setI 17 22 (nI s)).setI 17 24 (nI s)).setI 17 25 (nI s)).setI 17 25 (nI s + 1))) _
          rw [Wd.setI_setI, nI_1]
          refine cl_quote_loop (d := d + 10) (w := (w.setI 17 22 (nI s)).setI 17 24 (nI s)) hc hs (hl.nf (N1.trans (nf_24 _ _))) hT hL hL2 (L - s) (s + 1) 0 true (by omega) (by omega) (by omega) (fun _ => gj_nextV (cs_S_next_87 (d := d + 11) hc ?_))
          refine fin _ (if (sc_quote T L (L - s) (s + 1)).1 = true ∧ sc_alb (sc_quote T L (L - s) (s + 1)).2.2 = true ∧ (sc_quote T L (L - s) (s + 1)).2.2.length ≤ 40 then 17 else 34) (sc_quote T L (L - s) (s + 1)).2.1 0 (sc_quote T L (L - s) (s + 1)).2.2 (N1.trans ((nf_24 _ _).trans ((nf_25 _ _).trans (nf_23 _ _)))) ((if_neg hnl).trans ((if_neg h1).trans ((if_neg h2).trans (if_pos h3)))) rfl rfl ?_ (fun q => ?_)
          · show some (sg (qu_g (sc_quote T L (L - s) (s + 1)) true 0)) = _
            unfold qu_g
            congr 2
            refine if_cg ?_
            rw [Nat.zero_add]
            exact ⟨fun h => ⟨h.1, h.2.2.1, h.2.2.2⟩, fun h => ⟨h.1, rfl, h.2.1, h.2.2⟩⟩
          · exfalso
            split at q <;> exact absurd q (by decide)
        · refine cs_S_next_67 (d := d + 11) hc (fun _ _ => ?_) (fun _ h => absurd h h3) (fun h => absurd rfl h)
          refine cl_mark (d := d + 9) (p := s) hc hs hl2 hT hL hL2 rfl hsL (fun _ => gj_nextV (cs_S_next_95 (d := d + 11) hc ?_))
          refine fin _ (sc_sign T L s).1 (sc_sign T L s).2 0 [] (N2.trans ((nf_23 _ _).trans (nf_25 _ _))) ((if_neg hnl).trans ((if_neg h1).trans ((if_neg h2).trans (if_neg h3)))) rfl rfl rfl (fun q => ?_)
          have := sign_not (T := T) (L := L) (s := s)
          omega
  · have hsL : L ≤ s := Nat.le_of_not_lt (fun q' => h (q.mpr q'))
    have ht : tk_at T L s = (33, s, 0, []) := if_pos hsL
    refine k _ (N2.trans (nf_23 _ _)) ⟨?_, ?_, ?_, ?_, ?_⟩
    · show nI s = nI (tk_at T L (tk_s T L p)).2.1
      rw [es, ht]
    · show nI s = nI (tk_s T L p)
      rw [es]
    · show nI s = nI (tk_at T L (tk_s T L p)).2.1
      rw [es, ht]
    · show some (sg 33) = some (sg (tk_at T L (tk_s T L p)).1)
      rw [es, ht]
    · show (tk_at T L (tk_s T L p)).1 = 16 → _
      rw [es, ht]
      exact fun q => absurd q (by simp)
end Next
