/-! ===== the reference's scanner: its sign ===== -/
def sg_ms : List (List Int32) := [[61], [60, 62], [60], [60, 61], [62], [62, 61], [43], [45], [124, 124], [42], [47], [37], [40], [41], [44]]
def sg_chs (g : Nat) : List Int32 := if g < 15 then sc_words.getD g [] else sg_ms.getD (g - 18) []
/-- a mark of the characters cs stands at s -/
def MkM (T : Nat → Int32) (L s : Nat) (cs : List Int32) : Prop := s + cs.length ≤ L ∧ ∀ i, i < cs.length → T (s + i) = cs.getD i 0
/-- the reference's sign is the one behind the place p -/
def TokM (σ : Hp) (am : Nat → Nat) (w : Wd) (T : Nat → Int32) (L p : Nat) : Prop := w.I 0 45 = nI (tk_s T L p) ∧
  ((tk_g T L p < 15 ∧ w.I 0 44 = 1 ∧ w.I 0 46 = nI (tk_e T L p) ∧ ∃ a, w.A 0 47 = some a ∧ StrM σ am a (sg_chs (tk_g T L p)))
  ∨ (tk_g T L p = 15 ∧ w.I 0 44 = 2 ∧ w.I 0 46 = nI (tk_e T L p) ∧ ∃ a, w.A 0 47 = some a ∧ StrM σ am a (sc_lows T (tk_s T L p) (tk_e T L p)))
  ∨ (tk_g T L p = 16 ∧ w.I 0 44 = 3 ∧ w.I 0 46 = nI (tk_e T L p) ∧ w.J 0 48 = tk_n T L p)
  ∨ (tk_g T L p = 17 ∧ w.I 0 44 = 4 ∧ w.I 0 46 = nI (tk_e T L p) ∧ ∃ v, w.A 0 49 = some v ∧ VM σ am v (1, lN (tk_c T L p).length, tk_c T L p))
  ∨ (18 ≤ tk_g T L p ∧ tk_g T L p ≤ 32 ∧ w.I 0 44 = 6 ∧ w.I 0 46 = nI (tk_e T L p) ∧ tk_e T L p = tk_s T L p + (sg_chs (tk_g T L p)).length ∧ MkM T L (tk_s T L p) (sg_chs (tk_g T L p)))
  ∨ (tk_g T L p = 34 ∧ w.I 0 44 = 6 ∧ w.I 0 46 = nI (tk_s T L p + 1) ∧ (MkM T L (tk_s T L p) [46] ∨ MkM T L (tk_s T L p) [59]))
  ∨ (tk_g T L p = 33 ∧ w.I 0 44 = 0)
  ∨ (tk_g T L p = 34 ∧ w.I 0 44 = 7))
/-- how far the signs are paid for -/
def tk_E (T : Nat → Int32) (L p : Nat) : Nat := if tk_g T L p = 34 then L else tk_e T L p
def mk_all : List Int32 := [40, 41, 44, 46, 59, 42, 43, 45, 47, 37, 61, 60, 62]
set_option maxRecDepth 100000 in
theorem mk_yes : ∀ j, j < 128 → (∃ i, i < 13 ∧ mk_all.getD i 0 = (nI j).toInt8.toInt32) → (sc_mark (nI j) = 34 ∧ (j = 46 ∨ j = 59)) ∨ (18 ≤ sc_mark (nI j) ∧ sc_mark (nI j) ≤ 32 ∧ sg_chs (sc_mark (nI j)) = [nI j]) := by decide +kernel
set_option maxRecDepth 100000 in
theorem mk_no : ∀ j, j < 128 → ¬ (∃ i, i < 13 ∧ mk_all.getD i 0 = (nI j).toInt8.toInt32) → sc_mark (nI j) = 34 ∨ j = 124 := by decide +kernel
set_option maxRecDepth 100000 in
theorem mk_neg : ∀ u, u < 256 → 128 ≤ u → ¬ (∃ i, i < 13 ∧ mk_all.getD i 0 = (nI u).toInt8.toInt32) := by decide +kernel
set_option maxRecDepth 100000 in
theorem mk_neg2 : ∀ j, j < 129 → 1 ≤ j → sc_mark (-nI j) = 34 := by decide +kernel
section MNext
variable {z : State} {l : Launch} {d : Nat} {σ : Hp} {am : Nat → Nat} {w : Wd} {Q : Outcome → Hp → Prop} {T : Nat → Int32} {L sa s : Nat}
/-- one character that is a mark or none -/
theorem mo_one {v3 : Int32} (h : PM z σ am w T L sa) (hs : s < L) (hn : ¬ T s = 124 ∨ ¬ sc_fol T L s 124) (hsg : sc_sign T L s = (if T s = 124 then 34 else sc_mark (T s), s + 1)) (h45 : w.I 0 45 = nI s)
    (k : ∀ w', SS w w' → w'.I 0 45 = nI s → ((18 ≤ (sc_sign T L s).1 ∧ (sc_sign T L s).1 ≤ 32 ∧ w'.I 0 44 = 6 ∧ w'.I 0 46 = nI (sc_sign T L s).2 ∧ (sc_sign T L s).2 = s + (sg_chs (sc_sign T L s).1).length ∧ MkM T L s (sg_chs (sc_sign T L s).1)) ∨ ((sc_sign T L s).1 = 34 ∧ w'.I 0 44 = 6 ∧ w'.I 0 46 = nI (s + 1) ∧ (MkM T L s [46] ∨ MkM T L s [59])) ∨ ((sc_sign T L s).1 = 34 ∧ w'.I 0 44 = 7)) → Q (.returned none) (ov σ am 7 w')) :
    Go z l mt_JString_indexOf_0 (d + 12) 0 [.ref (strZ z "TruthBenchModel" 122), .int (atv T L s)] [] (ov σ am 7 (w.setI 0 46 (nI s + 1))) (fun o σ1 => hp_Le (ov σ am 7 (w.setI 0 46 (nI s + 1))) σ1 → gj_next z l mt_M_next (d + 13) 343 [.ref (am 0), .int (nI s), .int (atv T L s), .int v3] [.ref (am 0)] Q o σ1) := by
  have hT := h.2.2.2.2.2.2.1
  have M8 : MSt z σ := h.2.2.2.2.2.2.2.1
  have m1 : ∀ c : Int32, T s = c → MkM T L s [c] := fun c e => ⟨hs, fun i hi => by
    have hi' : i < 1 := hi
    obtain rfl : i = 0 := by omega
    exact e⟩
  have S6 : ∀ v : Int32, SS w ((w.setI 0 46 (nI s + 1)).setI 0 44 v) := fun v => (SS.setI _ _ (by decide) (by decide)).trans (SS.setI _ _ (by decide) (by decide))
  have go9 : ∀ u, u ≤ 255 → atv T L s = nI u → ((∃ i, i < 13 ∧ mk_all.getD i 0 = (nI u).toInt8.toInt32) → Q (.returned none) (ov σ am 7 ((w.setI 0 46 (nI s + 1)).setI 0 44 6))) → (¬ (∃ i, i < 13 ∧ mk_all.getD i 0 = (nI u).toInt8.toInt32) → Q (.returned none) (ov σ am 7 ((w.setI 0 46 (nI s + 1)).setI 0 44 7))) →
      Go z l mt_JString_indexOf_0 (d + 12) 0 [.ref (strZ z "TruthBenchModel" 122), .int (atv T L s)] [] (ov σ am 7 (w.setI 0 46 (nI s + 1))) (fun o σ1 => hp_Le (ov σ am 7 (w.setI 0 46 (nI s + 1))) σ1 → gj_next z l mt_M_next (d + 13) 343 [.ref (am 0), .int (nI s), .int (atv T L s), .int v3] [.ref (am 0)] Q o σ1) := fun u hu eu k1 k2 => by
    rw [eu]
    refine str_idx (d := d) (str_om h.1 (ms_c122 M8)) (by decide) hu (fun r hr => ?_)
    intro _
    have hr' : 0 ≤ r ↔ ∃ i, i < 13 ∧ mk_all.getD i 0 = (nI u).toInt8.toInt32 := hr
    exact gj_nextI (cm_M_next_346 (d := d + 4) h.1 (fun q => k2 (fun q2 => absurd q (Int32.not_lt.mpr (hr'.mpr q2)))) (fun q => k1 (hr'.mp (Int32.not_lt.mp q))))
  rcases atv_cases (L := L) (i := s) hT with ⟨h9, e⟩ | ⟨h9, j, hj, e1, e2⟩ | ⟨h9, j, u, hj1, hj2, e1, hu1, hu2, e2⟩
  · exact absurd hs h9
  · refine go9 j (by omega) e2 (fun q => k _ (S6 6) h45 ?_) (fun q => k _ (S6 7) h45 (Or.inr (Or.inr ⟨?_, rfl⟩)))
    · have n124 : ¬ T s = 124 := fun q9 => by
        rw [e1] at q9
        have : j = 124 := (nI_eq (b := 124) (by omega) (by decide)).mp q9
        subst this
        exact absurd q (by decide +kernel)
      rw [hsg, if_neg n124, e1]
      rcases mk_yes j (by omega) q with ⟨a, b⟩ | ⟨a, b, c⟩
      · refine Or.inr (Or.inl ⟨a, rfl, nI_1 s, ?_⟩)
        rcases b with b | b
        · exact Or.inl (m1 46 (by rw [e1, b]; rfl))
        · exact Or.inr (m1 59 (by rw [e1, b]; rfl))
      · refine Or.inl ⟨a, b, rfl, nI_1 s, ?_, ?_⟩
        · rw [c]; rfl
        · rw [c]; exact m1 _ e1
    · rw [hsg]
      rcases mk_no j (by omega) q with a | a
      · split
        · rfl
        · rw [e1]; exact a
      · rw [if_pos (by rw [e1, a]; rfl)]
  · refine go9 u (by omega) e2 (fun q => absurd q (mk_neg u (by omega) hu1)) (fun q => k _ (S6 7) h45 (Or.inr (Or.inr ⟨?_, rfl⟩)))
    rw [hsg, e1]
    split
    · rfl
    · exact mk_neg2 j (by omega) hj1
end MNext
