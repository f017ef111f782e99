/-! ===== constants, names ===== -/
theorem nI_s1 {n : Nat} (h : 1 ≤ n) : nI n - 1 = nI (n - 1) := pk_sub (b := 1) h
theorem nar_small {j : Nat} (h : j ≤ 126) : vp_nar .byte (nI j) = nI j := by
  rw [vp_nar_byte]
  exact (by decide +kernel : ∀ j, j < 127 → (nI j).toInt8.toInt32 = nI j) j (by omega)
theorem nar_small2 {j : Nat} (h : j ≤ 126) : vp_nar .byte ((nI j).toInt8.toInt32) = nI j := by
  rw [vp_nar_byte]
  exact (by decide +kernel : ∀ j, j < 127 → (nI j).toInt8.toInt32.toInt8.toInt32 = nI j) j (by omega)
section Const
variable {z : State} {l : Launch} {σ : Hp} {ad : Nat → Nat} {op sg : Nat → Nat} {aO aS mO mS : Nat} {T : Nat → Int32} {L : Nat}
/-- characters are put behind each other -/
theorem cg_text_loop {d : Nat} {w : Wd} {Q : Outcome → Hp → Prop} {p ops n c s e : Nat} {ko : Nat → Nat} (hp : PP z σ ad op sg aO aS mO mS L) (hG : GS ad op sg T L w p ops n c ko) (he : e ≤ L) : ∀ (f k nx : Nat) (w1 : Wd), k ≤ L → (sc_quote T L f k).1 = true → (sc_quote T L f k).2.1 = e → (∀ x ∈ (sc_quote T L f k).2.2, sc_chr x) → c + 1 ≤ nx → nx + (sc_quote T L f k).2.2.length < 1000 → PF w w1 → GS ad op sg T L w1 p ops n c ko → w1.eJ = w.eJ → (∀ j, j < c → w1.eI 15 j = w.eI 15 j) →
    (∀ w2, PF w w2 → GS ad op sg T L w2 p ops n c ko → w2.eJ = w.eJ → (∀ j, j < nx → w2.eI 15 j = w1.eI 15 j) → (∀ i, i < (sc_quote T L f k).2.2.length → w2.eI 15 (nx + i) = (sc_quote T L f k).2.2.getD i 0) → ∀ v6 : Int32, nI e - 1 ≤ v6 → Go z l mt_G_addText (d + 10) 17 [.ref (ad 12), .ref (ad 1), .int (nI s), .int (nI e), .int (nI c), .int (nI (nx + (sc_quote T L f k).2.2.length)), .int v6] [] (ov σ ad 21 w2) Q) →
    Go z l mt_G_addText (d + 10) 17 [.ref (ad 12), .ref (ad 1), .int (nI s), .int (nI e), .int (nI c), .int (nI nx), .int (nI k)] [] (ov σ ad 21 w1) Q := by
  intro f
  have h1000 := gs_1000 hG
  induction f with
  | zero =>
    intro k nx w1 hk hq
    exact absurd (show false = true from hq) (by decide)
  | succ f ih =>
    intro k nx w1 hk hq hqe hch hnx hn9 hf G1 hej hei kk
    by_cases hle : L ≤ k
    · rw [show sc_quote T L (f + 1) k = (false, k, []) from if_pos hle] at hq
      exact absurd (show false = true from hq) (by decide)
    · by_cases h39 : T k = 39 ∧ ¬ (k + 1 < L ∧ T (k + 1) = 39)
      · have es : sc_quote T L (f + 1) k = (true, k + 1, []) := (if_neg hle).trans (if_pos h39)
        rw [es] at hqe kk
        have hqe' : k + 1 = e := hqe
        refine kk w1 hf G1 hej (fun _ _ => rfl) (fun i hi => absurd hi (Nat.not_lt_zero _)) _ ?_
        rw [← hqe', ← nI_1, show nI k + 1 - 1 = nI k by rw [nI_1, nI_s1 (by omega)]; rfl]
        exact nI_le (Nat.le_refl _) (by omega)
      · have hx : ∀ e', (if T k = 39 then k + 2 else k + 1) = e' → k + 1 ≤ e' ∧ e' ≤ L := fun e' he => by
          by_cases h : T k = 39
          · rw [if_pos h] at he
            have : k + 1 < L := Classical.byContradiction (fun q => h39 ⟨h, fun q2 => q q2.1⟩)
            omega
          · rw [if_neg h] at he
            omega
        obtain ⟨k', hk'⟩ : ∃ k', (if T k = 39 then k + 2 else k + 1) = k' := ⟨_, rfl⟩
        have es : sc_quote T L (f + 1) k = ((sc_quote T L f k').1, (sc_quote T L f k').2.1, T k :: (sc_quote T L f k').2.2) := by
          rw [← hk']
          exact (if_neg hle).trans (if_neg h39)
        have hk2 := hx k' hk'
        rw [es] at hq hqe hch hn9 kk
        have hqc : sc_chr (T k) := hch _ List.mem_cons_self
        have hlen : (T k :: (sc_quote T L f k').2.2).length = (sc_quote T L f k').2.2.length + 1 := rfl
        have hke : k' + (sc_quote T L f k').2.2.length + 1 ≤ e := by
          have := (quote_le (T := T) (L := L) f k' hk2.2).2.2 hq
          have hqe' : (sc_quote T L f k').2.1 = e := hqe
          omega
        have q1 : ¬ nI e - 1 ≤ nI k := by
          rw [nI_s1 (by omega)]
          exact nI_ge (by omega) (by omega)
        have q2 : ¬ (1000 : Int32) ≤ nI nx := nI_ge (b := 1000) (by
          have : nx + ((sc_quote T L f k').2.2.length + 1) < 1000 := hn9
          omega) (by omega)
        have hn9' : nx + ((sc_quote T L f k').2.2.length + 1) < 1000 := hn9
        have eT : w1.eI 1 (nI k).toNatClampNeg = T k := by rw [nI_clamp (by omega), G1.2.1]
        have enx : (nI nx).toNatClampNeg = nx := nI_clamp (by omega)
        obtain ⟨b, hb1, hb2, hb3⟩ := ch_of (c := T k) hqc
        have enar : vp_nar .byte (w1.eI 1 (nI k).toNatClampNeg) = T k := by rw [eT, hb3, nar_small hb2]
        have G2 : GS ad op sg T L (w1.rowI 15 (va_up (w1.eI 15) nx (T k))) p ops n c ko := G1
        have go : ∀ v6 : Int32, v6 = nI k' → Go z l mt_G_addText (d + 10) 17 [.ref (ad 12), .ref (ad 1), .int (nI s), .int (nI e), .int (nI c), .int (nI nx + 1), .int v6] [] (ov σ ad 21 (w1.rowI 15 (va_up (w1.eI 15) (nI nx).toNatClampNeg (vp_nar .byte (w1.eI 1 (nI k).toNatClampNeg))))) Q := fun v6 hv => by
          rw [enar, enx, nI_1, hv]
          refine ih k' (nx + 1) (w1.rowI 15 (va_up (w1.eI 15) nx (T k))) hk2.2 hq hqe (fun x hx => hch x (List.mem_cons_of_mem _ hx)) (by omega) (by omega) (hf.trans (pf_15 _ _)) G2 hej (fun j hj => (hp_up_ne _ _ (by omega)).trans (hei j hj)) (fun w2 f2 G2' e2 r1 r2 v6 hv6 => ?_)
          have := kk w2 f2 G2' e2 (fun j hj => (r1 j (by omega)).trans (hp_up_ne _ _ (by omega))) (fun i hi => ?_) v6 hv6
          · rw [show nx + 1 + (sc_quote T L f k').2.2.length = nx + ((sc_quote T L f k').2.2.length + 1) by omega]
            exact this
          · cases i with
            | zero => exact (r1 nx (by omega)).trans (hp_up_same _ _ _)
            | succ i =>
              rw [show nx + (i + 1) = nx + 1 + i by omega]
              exact r2 i (by
                have : i + 1 < (sc_quote T L f k').2.2.length + 1 := hi
                omega)
        refine cs_G_addText_17 (d := d + 1) hp.1 hp.2.1 G1.1.1 (fun h => absurd h q1) (fun h => absurd h q1) (fun h => absurd h q1) (fun _ h => absurd h q2) (fun _ h => absurd h q2) (fun _ h => absurd h q2) (fun _ _ => vp_in_nI (by omega) (by omega)) (fun _ _ => vp_in_nI (by omega) (by omega)) (fun _ _ h => go _ ?_) (fun _ _ h => go _ ?_)
        · have h' : ¬ T k = 39 := fun q => h (eT.trans q)
          rw [if_neg h'] at hk'
          rw [← hk', nI_1]
        · have h' : T k = 39 := eT.symm.trans h
          rw [if_pos h'] at hk'
          rw [← hk', nI_1, nI_1]
theorem cg_text {d : Nat} {w : Wd} {Q : Outcome → Hp → Prop} {p ops n c : Nat} {ko : Nat → Nat} (hp : PP z σ ad op sg aO aS mO mS L) (hG : GS ad op sg T L w p ops n c ko) (hg : tk_g T L p = 17) (k : ∀ w', PF w w' → TK sg T L w' p → w'.I 12 19 = nI (n + 1) → w'.I 12 18 = nI (c + 1 + (tk_c T L p).length) → PL ad op w' (va_up ko n 2) → w'.I 16 30 = -1 → w'.I 16 31 = nI ops → Rep (ex_text (tk_c T L p)) n (n + 1) (c + 1 + (tk_c T L p).length) (va_up ko n 2) (w'.eJ 14) (w'.eI 15) → (∀ j, j < n → w'.eJ 14 j = w.eJ 14 j) → (∀ j, j < c → w'.eI 15 j = w.eI 15 j) → Q (.returned none) (ov σ ad 21 w')) : Go z l mt_G_addText (d + 10) 0 [.ref (ad 12), .ref (ad 1), .int (w.I 17 24), .int (w.I 17 25), .retAddr 0, .retAddr 0, .retAddr 0] [] (ov σ ad 21 w) Q := by
  have h1000 := gs_1000 hG
  obtain ⟨g1, g2, g3, g4, g5, g6, g7, g8, g9, g10, g11, g12, g13⟩ := id hG
  have ht := tk_le (T := T) g11
  have htx := ht.2.2.2.2.2.2.1 hg
  -- what the sign is
  have hs : tk_s T L p < L := by
    have := ht.2.2.2.1 (by rw [hg]; decide)
    omega
  have hq : (sc_quote T L (L - tk_s T L p) (tk_s T L p + 1)).1 = true ∧ (∀ x ∈ tk_c T L p, sc_chr x) ∧ (tk_c T L p).length ≤ 40 ∧ tk_c T L p = (sc_quote T L (L - tk_s T L p) (tk_s T L p + 1)).2.2 ∧ tk_e T L p = (sc_quote T L (L - tk_s T L p) (tk_s T L p + 1)).2.1 := by
    have hgg : (tk_at T L (tk_s T L p)).1 = 17 := hg
    show _ ∧ (∀ x ∈ (tk_at T L (tk_s T L p)).2.2.2, sc_chr x) ∧ (tk_at T L (tk_s T L p)).2.2.2.length ≤ 40 ∧ (tk_at T L (tk_s T L p)).2.2.2 = _ ∧ (tk_at T L (tk_s T L p)).2.1 = _
    unfold tk_at at hgg ⊢
    rw [if_neg (by omega)] at hgg ⊢
    by_cases h2 : sc_let (T (tk_s T L p))
    · rw [if_pos h2] at hgg
      exact absurd hgg ofWord_not.2.1
    · rw [if_neg h2] at hgg ⊢
      by_cases h3 : sc_dig (T (tk_s T L p))
      · rw [if_pos h3] at hgg
        exfalso
        by_cases hv : 9007199254740991 < (sc_int T L (L - tk_s T L p) 0 (tk_s T L p)).1 <;> simp [hv] at hgg
      · rw [if_neg h3] at hgg ⊢
        by_cases h4 : T (tk_s T L p) = 39
        · rw [if_pos h4] at hgg ⊢
          by_cases hv : (sc_quote T L (L - tk_s T L p) (tk_s T L p + 1)).1 = true ∧ sc_alb (sc_quote T L (L - tk_s T L p) (tk_s T L p + 1)).2.2 = true ∧ (sc_quote T L (L - tk_s T L p) (tk_s T L p + 1)).2.2.length ≤ 40
          · exact ⟨hv.1, alb_iff.mp hv.2.1, hv.2.2, rfl, rfl⟩
          · rw [if_neg hv] at hgg; exact absurd hgg (by simp)
        · rw [if_neg h4] at hgg
          exfalso
          have q' : (sc_sign T L (tk_s T L p)).1 = 17 := hgg
          have := sign_not (T := T) (L := L) (s := tk_s T L p)
          omega
  obtain ⟨q1, q2, q3, q4, q5⟩ := hq
  rw [g4.2.1, g4.2.2.1]
  refine cs_G_addText (d := d + 1) hp.1 ?_
  rw [g8, nI_1, nI_1]
  refine cg_text_loop hp hG (by omega : tk_e T L p ≤ L) (L - tk_s T L p) (tk_s T L p + 1) (c + 1) w (by omega) q1 q5.symm (fun x hx => q2 x (by rw [q4]; exact hx)) (Nat.le_refl _) (by rw [← q4]; omega) (PF.refl w) hG rfl (fun _ _ => rfl) (fun w2 f2 G2 e2 r1 r2 v6 hv6 => ?_)
  rw [← q4] at r2 ⊢
  have c9 : ¬ (1000 : Int32) ≤ nI c := nI_ge (b := 1000) (by omega) (by omega)
  have ec : (nI c).toNatClampNeg = c := nI_clamp (by omega)
  have elen : vp_nar .byte ((nI (c + 1 + (tk_c T L p).length) - nI c - 1).toInt8.toInt32) = nI (tk_c T L p).length := by
    rw [pk_sub (by omega), show c + 1 + (tk_c T L p).length - c = (tk_c T L p).length + 1 by omega, nI_s1 (by omega), Nat.add_sub_cancel]
    exact nar_small2 (by omega)
  have fin : ∀ v : Int32, v = v → Go z l mt_G_add (d + 9) 0 [.ref (ad 12), .ref (op 2), .long (nI c).toInt64, .retAddr 0] [] (ov σ ad 21 ((w2.rowI 15 (va_up (w2.eI 15) (nI c).toNatClampNeg (vp_nar .byte ((nI (c + 1 + (tk_c T L p).length) - nI c - 1).toInt8.toInt32)))).setI 12 18 (nI (c + 1 + (tk_c T L p).length)))) (fun o σ1 => hp_Le (ov σ ad 21 ((w2.rowI 15 (va_up (w2.eI 15) (nI c).toNatClampNeg (vp_nar .byte ((nI (c + 1 + (tk_c T L p).length) - nI c - 1).toInt8.toInt32)))).setI 12 18 (nI (c + 1 + (tk_c T L p).length)))) σ1 → gj_next z l mt_G_addText (d + 10) 105 [.ref (ad 12), .ref (ad 1), .int (nI (tk_s T L p)), .int (nI (tk_e T L p)), .int (nI c), .int (nI (c + 1 + (tk_c T L p).length)), .int v6] [] Q o σ1) := fun v _ => by
    rw [elen, ec, lN_ofI (by omega)]
    obtain ⟨a1, a2, a3, a4, a5, a6, a7, a8, a9, a10, a11, a12, a13⟩ := id G2
    refine cg_add (d := d) (n := n) (ko := ko) hp.1 hp.2.1 (hp.2.2.1 2 (by decide)) (by decide) a1 a7 (by omega) (fun _ => gj_nextI (cs_G_addText_108 (d := d + 1) hp.1 (k _ ?_ a4 rfl rfl (pl_add (w := (w2.rowI 15 (va_up (w2.eI 15) c (nI (tk_c T L p).length))).setI 12 18 (nI (c + 1 + (tk_c T L p).length))) a1 (by decide)) a5 a6 (rp_text q3 (fun x hx => q2 x hx) (Nat.le_refl _) (by omega) (hp_up_same _ _ _) (hp_up_same _ _ _) (hp_up_same _ _ _) (fun i hi => ?_)) (fun j hj => ?_) (fun j hj => ?_))))
    · exact f2.trans ((pf_15 _ _).trans ((pf_I12 _ _ _).trans pf_add))
    · show va_up (w2.eI 15) c _ (c + 1 + i) = _
      rw [hp_up_ne _ _ (by omega)]
      exact r2 i hi
    · show va_up (w2.eJ 14) n _ j = _
      rw [hp_up_ne _ _ (by omega), e2]
    · show va_up (w2.eI 15) c _ j = _
      rw [hp_up_ne _ _ (by omega)]
      exact (r1 j (by omega))
  exact cs_G_addText_17 (d := d + 1) hp.1 hp.2.1 G2.1.1 (fun _ h => absurd h c9) (fun _ _ => vp_in_nI (by omega) (by omega)) (fun _ _ => fin 0 rfl) (fun h => absurd hv6 h) (fun h => absurd hv6 h) (fun h => absurd hv6 h) (fun h => absurd hv6 h) (fun h => absurd hv6 h) (fun h => absurd hv6 h) (fun h => absurd hv6 h)
end Const
