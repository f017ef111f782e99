/-! ===== letters, eight characters ===== -/
def sp_low (c : Int32) : Int32 := if c < 65 then c else if 90 < c then c else c + 32
def sp_upp (c : Int32) : Int32 := if c < 97 then c else if 122 < c then c else c - 32
theorem ch_of {c : Int32} (h : ch_ok c) : ∃ j, 32 ≤ j ∧ j ≤ 126 ∧ c = nI j := by
  obtain ⟨j, hj, rfl⟩ := nI_of2 (M := 126) (n := 126) (by decide) (fun q => absurd (Int32.le_trans h.1 (Int32.le_of_lt q)) (by decide)) h.2
  exact ⟨j, (nI_leI (a := 32) (by omega) (by omega)).mp h.1, hj, rfl⟩
theorem ch_low {c : Int32} (h : ch_ok c) : ch_ok (sp_low c) ∧ vp_nar .byte ((sp_low c).toInt8.toInt32) = sp_low c := by
  obtain ⟨j, h1, h2, rfl⟩ := ch_of h
  rw [vp_nar_byte]
  have : ∀ j, j < 127 → 32 ≤ j → (32 ≤ sp_low (nI j) ∧ sp_low (nI j) ≤ 126) ∧ (sp_low (nI j)).toInt8.toInt32.toInt8.toInt32 = sp_low (nI j) := by decide +kernel
  exact this j (by omega) h1
theorem ch_upp {c : Int32} (h : ch_ok c) : ch_ok (sp_upp c) ∧ vp_nar .byte ((sp_upp c).toInt8.toInt32) = sp_upp c := by
  obtain ⟨j, h1, h2, rfl⟩ := ch_of h
  rw [vp_nar_byte]
  have : ∀ j, j < 127 → 32 ≤ j → (32 ≤ sp_upp (nI j) ∧ sp_upp (nI j) ≤ 126) ∧ (sp_upp (nI j)).toInt8.toInt32.toInt8.toInt32 = sp_upp (nI j) := by decide +kernel
  exact this j (by omega) h1
def sp_let (b : Int32) (c : Int32) : Int32 := if b = 0 then sp_low c else sp_upp c
theorem ch_let {b c : Int32} (h : ch_ok c) : ch_ok (sp_let b c) ∧ vp_nar .byte ((sp_let b c).toInt8.toInt32) = sp_let b c := by
  unfold sp_let
  split
  · exact ch_low h
  · exact ch_upp h
def pk8 (p : Int64) (x : Int32) : Int64 := (p <<< ((8 : Int32).toInt64 &&& 63)) ||| x.toInt64
def sp_pk (f : Nat → Int32) : Nat → Int64
  | 0 => 0
  | n + 1 => pk8 (sp_pk f n) (f n)
theorem getD_mem {A : List Int32} {j : Nat} (h : j < A.length) : A.getD j 0 ∈ A := by
  rw [show A.getD j 0 = A[j] by simp [List.getD, h]]
  exact List.getElem_mem _
theorem getD_out {A : List Int32} {j : Nat} (h : A.length ≤ j) : A.getD j 0 = 0 := by simp [List.getD, h]
section ClSlots4
variable {z : State} {l : Launch} {d : Nat} {σ : Hp} {ad : Nat → Nat} {w : Wd} {S : Nat → Va} {Q : Outcome → Hp → Prop}
theorem cl_letters_loop {s : Nat} {b : Int32} {A : List Int32} (hc : CW z σ ad) (hl : CLk w ad) (hs : s < 251) (hA : A.length ≤ 40) (hch : ∀ c ∈ A, ch_ok c) (hn : w.eJ 5 s = lN A.length)
    (k : ∀ w', SF w w' → w'.eI 4 = w.eI 4 → w'.eJ 5 = w.eJ 5 → (∀ i, i < s * 40 ∨ s * 40 + 40 ≤ i → w'.eI 6 i = w.eI 6 i) → (∀ i, i < A.length → w'.eI 6 (s * 40 + i) = sp_let b (A.getD i 0)) → Q (.returned none) (ov σ ad 21 w')) :
    ∀ n j w', j + n = A.length → SF w w' → w'.eI 4 = w.eI 4 → w'.eJ 5 = w.eJ 5 → (∀ i, i < s * 40 ∨ s * 40 + 40 ≤ i → w'.eI 6 i = w.eI 6 i) → (∀ i, i < j → w'.eI 6 (s * 40 + i) = sp_let b (A.getD i 0)) → (∀ i, j ≤ i → i < A.length → w'.eI 6 (s * 40 + i) = A.getD i 0) →
      Go z l mt_L_changeLetters (d + 9) 8 [.ref (ad 3), .int (nI s), .int b, .int (nI (s * 40)), .int (nI (s * 40 + j))] [] (ov σ ad 21 w') Q := by
  intro n
  have es : (nI s).toNatClampNeg = s := nI_clamp (by omega)
  induction n with
  | zero =>
    intro j w' hj hf h4 h5 h6 h7 h8
    have hle : nI (s * 40) + (w'.eJ 5 (nI s).toNatClampNeg).toInt32 ≤ nI (s * 40 + j) := by
      rw [es, h5, hn, lN_i, nI_add]
      exact nI_le (by omega) (by omega)
    have no : ∀ P : Prop, ¬ nI (s * 40) + (w'.eJ 5 (nI s).toNatClampNeg).toInt32 ≤ nI (s * 40 + j) → P := fun P h => absurd hle h
    refine cs_L_changeLetters_8 (d := d) hc (hf.link hl) (vp_in_nI hs (by omega)) (fun _ => k w' hf h4 h5 h6 (fun i hi => h7 i (by omega))) (fun h => no _ h) (fun h => no _ h) (fun h => no _ h) (fun h => no _ h) (fun h => no _ h) (fun h => no _ h) (fun h => no _ h) (fun h => no _ h)
  | succ n ih =>
    intro j w' hj hf h4 h5 h6 h7 h8
    have hgt : ¬ nI (s * 40) + (w'.eJ 5 (nI s).toNatClampNeg).toInt32 ≤ nI (s * 40 + j) := by
      rw [es, h5, hn, lN_i, nI_add]
      exact nI_ge (by omega) (by omega)
    have e4 : (nI (s * 40 + j)).toNatClampNeg = s * 40 + j := nI_clamp (by omega)
    have hcj := h8 j (Nat.le_refl _) (by omega)
    have hok := hch _ (getD_mem (A := A) (j := j) (by omega))
    obtain ⟨-, hby⟩ := ch_let (b := b) hok
    have key : ∀ x : Int32, x = sp_let b (A.getD j 0) → Go z l mt_L_changeLetters (d + 9) 8 [.ref (ad 3), .int (nI s), .int b, .int (nI (s * 40)), .int (nI (s * 40 + j) + 1)] [] (ov σ ad 21 (w'.rowI 6 (va_up (w'.eI 6) (nI (s * 40 + j)).toNatClampNeg (vp_nar .byte (x.toInt8.toInt32))))) Q := by
      intro x hx
      rw [e4, hx, hby, nI_1]
      refine ih (j + 1) _ (by omega) (hf.trans (sf_6 _ _)) h4 h5 (fun i hi => (va_up_ne _ _ (by omega)).trans (h6 i hi)) (fun i hi => ?_) (fun i h1 h2 => (va_up_ne _ _ (by omega)).trans (h8 i (by omega) h2))
      by_cases hij : i = j
      · subst hij; exact va_up_self _ _ _
      · exact (va_up_ne _ _ (by omega)).trans (h7 i (by omega))
    have hin : vp_in (nI (s * 40 + j)) 10040 := vp_in_nI (by omega) (by omega)
    have hgo : (w'.eI 6 (nI (s * 40 + j)).toNatClampNeg) = A.getD j 0 := by rw [e4]; exact hcj
    refine cs_L_changeLetters_8 (d := d) hc (hf.link hl) (vp_in_nI hs (by omega)) (fun h => absurd h hgt) (fun _ _ => hin) (fun _ hb h1 => key _ ?_) (fun _ hb h1 h2 => key _ ?_) (fun _ hb h1 h2 => key _ ?_) (fun _ _ => hin) (fun _ hb h1 => key _ ?_) (fun _ hb h1 h2 => key _ ?_) (fun _ hb h1 h2 => key _ ?_)
    · rw [hgo] at h1 ⊢; rw [sp_let, if_pos hb, sp_low, if_pos h1]
    · rw [hgo] at h1 h2 ⊢; rw [sp_let, if_pos hb, sp_low, if_neg h1, if_pos h2]
    · rw [hgo] at h1 h2 ⊢; rw [sp_let, if_pos hb, sp_low, if_neg h1, if_neg h2]
    · rw [hgo] at h1 ⊢; rw [sp_let, if_neg hb, sp_upp, if_pos h1]
    · rw [hgo] at h1 h2 ⊢; rw [sp_let, if_neg hb, sp_upp, if_neg h1, if_pos h2]
    · rw [hgo] at h1 h2 ⊢; rw [sp_let, if_neg hb, sp_upp, if_neg h1, if_neg h2]
theorem cl_letters {s : Nat} {b : Int32} (hc : CW z σ ad) (hl : CLk w ad) (hS : SLS w S) (hs : s < 251) (h1 : (S s).1 = 1)
    (k : ∀ w', SF w w' → SLS w' (va_up S s (1, lN ((S s).2.2.map (sp_let b)).length, (S s).2.2.map (sp_let b))) → Q (.returned none) (ov σ ad 21 w')) :
    Go z l mt_L_changeLetters (d + 9) 0 [.ref (ad 3), .int (nI s), .int b, .retAddr 0, .retAddr 0] [] (ov σ ad 21 w) Q := by
  obtain ⟨⟨a1, a2, a3⟩, a4⟩ := hS s hs
  obtain ⟨na, ca⟩ := a4.text h1
  refine cs_L_changeLetters (d := d) hc ?_
  rw [t40]
  refine cl_letters_loop (A := (S s).2.2) hc hl hs a4.len ca (a2.trans na) (fun w' hf q4 q5 q6 q7 => k w' hf ?_) (S s).2.2.length 0 w (Nat.zero_add _) (SF.refl w) rfl rfl (fun _ _ => rfl) (fun i hi => absurd hi (Nat.not_lt_zero _)) (fun i _ hi => a3 i hi)
  refine hS.upd (fun j _ => by rw [q4]) (fun j _ => by rw [q5]) q6 (v_ok_text (by rw [List.length_map]; exact a4.len) (fun c hc9 => ?_)) ⟨by rw [q4, a1, h1], by rw [q5, a2, na, List.length_map], fun i hi => ?_⟩
  · obtain ⟨x, hx, rfl⟩ := List.mem_map.mp hc9
    exact (ch_let (ca x hx)).1
  · have hi' : i < (S s).2.2.length := by rw [← List.length_map (f := sp_let b)]; exact hi
    rw [q7 i hi']
    simp [List.getD, hi']
theorem cl_eight_loop {s fr : Nat} {A : List Int32} (hc : CW z σ ad) (hl : CLk w ad) (hs : s < 251) (hfr : fr ≤ 32) (hA : A.length ≤ 40) (h6 : ∀ i, i < A.length → w.eI 6 (s * 40 + i) = A.getD i 0) (k : Q (.returned (some (.long (sp_pk (fun i => A.getD (fr + i) 0) 8)))) (ov σ ad 21 w)) :
    ∀ n j, j + n = 8 → Go z l mt_L_eightCharacters (d + 9) 28 [.ref (ad 3), .int (nI s), .int (nI fr), .int (nI A.length), .long (sp_pk (fun i => A.getD (fr + i) 0) j), .retAddr 0, .int (nI (fr + j))] [] (ov σ ad 21 w) Q := by
  intro n
  have e8 : nI fr + 8 = nI (fr + 8) := by rw [show (8 : Int32) = nI 8 from rfl, nI_add]
  induction n with
  | zero =>
    intro j hj
    have e : j = 8 := by omega
    subst e
    exact cs_L_eightCharacters_28 (d := d) hc hl (fun _ => k) (fun h => absurd (by rw [e8]; exact nI_le (by omega) (by omega)) h) (fun h => absurd (by rw [e8]; exact nI_le (by omega) (by omega)) h) (fun h => absurd (by rw [e8]; exact nI_le (by omega) (by omega)) h)
  | succ n ih =>
    intro j hj
    have hgt : ¬ nI fr + 8 ≤ nI (fr + j) := by rw [e8]; exact nI_ge (by omega) (by omega)
    have h9 := ih (j + 1) (by omega)
    rw [show fr + (j + 1) = fr + j + 1 from rfl, nI_succ] at h9
    refine cs_L_eightCharacters_28 (d := d) hc hl (fun h => absurd h hgt) (fun _ h => ?_) (fun _ h => ?_) (fun _ h => ?_)
    · have q := (nI_leI (by omega) (by omega)).mp h
      rw [show sp_pk (fun i => A.getD (fr + i) 0) (j + 1) = pk8 (sp_pk (fun i => A.getD (fr + i) 0) j) (A.getD (fr + j) 0) from rfl, getD_out q] at h9
      exact h9
    · have q : ¬ A.length ≤ fr + j := fun q => h (nI_le q (by omega))
      rw [s40_in hs (by omega)]
      exact vp_in_nI (by omega) (by omega)
    · have q : ¬ A.length ≤ fr + j := fun q => h (nI_le q (by omega))
      rw [s40_in hs (by omega), nI_clamp (by omega), h6 _ (by omega)]
      exact h9
theorem cl_eight {s fr : Nat} (hc : CW z σ ad) (hl : CLk w ad) (hS : SLS w S) (hs : s < 251) (hfr : fr ≤ 32) (k : Q (.returned (some (.long (sp_pk (fun i => (S s).2.2.getD (fr + i) 0) 8)))) (ov σ ad 21 w)) :
    Go z l mt_L_eightCharacters (d + 9) 0 [.ref (ad 3), .int (nI s), .int (nI fr), .retAddr 0, .retAddr 0, .retAddr 0, .retAddr 0] [] (ov σ ad 21 w) Q := by
  obtain ⟨⟨a1, a2, a3⟩, a4⟩ := hS s hs
  have es : (nI s).toNatClampNeg = s := nI_clamp (by omega)
  refine cs_L_eightCharacters (d := d) hc hl (vp_in_nI hs (by omega)) (fun h => ?_) (fun _ => vp_in_nI hs (by omega)) (fun h => ?_)
  · rw [es, a1] at h
    have e := a4.eta h
    have e2 : (S s).2.2 = [] := by rw [e]
    have := cl_eight_loop (A := (S s).2.2) (d := d) (l := l) hc hl hs hfr a4.len a3 k 8 0 rfl
    rw [e2] at this
    exact this
  · rw [es, a1] at h
    rw [es, a2, (a4.text h).1, lN_i]
    exact cl_eight_loop (A := (S s).2.2) (d := d) (l := l) hc hl hs hfr a4.len a3 k 8 0 rfl
end ClSlots4
