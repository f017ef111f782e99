/-! ===== where the signs stand ===== -/
section Tok
variable {T : Nat → Int32} {L : Nat}
theorem skip_le : ∀ (n : Nat) (cm : Bool) (p : Nat), p ≤ sc_skip T L n cm p ∧ (p ≤ L → sc_skip T L n cm p ≤ L)
  | 0, _, p => ⟨Nat.le_refl _, fun h => h⟩
  | n + 1, cm, p => by
    have st : ∀ b, p ≤ sc_skip T L n b (p + 1) ∧ (p < L → sc_skip T L n b (p + 1) ≤ L) := fun b => by
      have := skip_le n b (p + 1)
      exact ⟨by omega, fun h => this.2 (by omega)⟩
    unfold sc_skip
    by_cases h1 : L ≤ p
    · rw [if_pos h1]; exact ⟨Nat.le_refl _, fun h => h⟩
    · rw [if_neg h1]
      split
      · exact ⟨(st _).1, fun _ => (st _).2 (by omega)⟩
      · split
        · exact ⟨(st _).1, fun _ => (st _).2 (by omega)⟩
        · split
          · exact ⟨(st _).1, fun _ => (st _).2 (by omega)⟩
          · exact ⟨Nat.le_refl _, fun h => h⟩
theorem word_le : ∀ (n e : Nat), e ≤ sc_word T L n e ∧ (e ≤ L → sc_word T L n e ≤ L)
  | 0, e => ⟨Nat.le_refl _, fun h => h⟩
  | n + 1, e => by
    have := word_le n (e + 1)
    unfold sc_word
    split
    · next h => exact ⟨by omega, fun _ => this.2 (by omega)⟩
    · exact ⟨Nat.le_refl _, fun h => h⟩
theorem int_le : ∀ (n : Nat) (v : Int64) (e : Nat), e ≤ (sc_int T L n v e).2 ∧ (e ≤ L → (sc_int T L n v e).2 ≤ L)
  | 0, v, e => ⟨Nat.le_refl _, fun h => h⟩
  | n + 1, v, e => by
    unfold sc_int
    split
    · next h =>
      have := int_le n (if 9007199254740992 < 10 * v + (T e).toInt64 - 48 then 9007199254740992 else 10 * v + (T e).toInt64 - 48) (e + 1)
      exact ⟨by omega, fun _ => this.2 (by omega)⟩
    · exact ⟨Nat.le_refl _, fun h => h⟩
theorem quote_le : ∀ (n e : Nat), e ≤ L → e + (sc_quote T L n e).2.2.length ≤ (sc_quote T L n e).2.1 ∧ (sc_quote T L n e).2.1 ≤ L ∧ ((sc_quote T L n e).1 = true → e + (sc_quote T L n e).2.2.length + 1 ≤ (sc_quote T L n e).2.1)
  | 0, e, h => ⟨Nat.le_refl _, h, fun q => absurd (show false = true from q) (by decide)⟩
  | n + 1, e, h => by
    unfold sc_quote
    by_cases h1 : L ≤ e
    · rw [if_pos h1]; exact ⟨Nat.le_refl _, h, fun q => absurd (show false = true from q) (by decide)⟩
    · rw [if_neg h1]
      by_cases h2 : T e = 39 ∧ ¬ (e + 1 < L ∧ T (e + 1) = 39)
      · rw [if_pos h2]
        exact ⟨Nat.le_succ _, by show e + 1 ≤ L; omega, fun _ => Nat.le_refl _⟩
      · rw [if_neg h2]
        have hx : ∀ e', (if T e = 39 then e + 2 else e + 1) = e' → e + 1 ≤ e' ∧ e' ≤ L := fun e' he => by
          by_cases h39 : T e = 39
          · rw [if_pos h39] at he
            have : e + 1 < L := Classical.byContradiction (fun q => h2 ⟨h39, fun q2 => q q2.1⟩)
            omega
          · rw [if_neg h39] at he
            omega
        obtain ⟨x1, x2⟩ := hx _ rfl
        obtain ⟨a, b, c⟩ := quote_le n (if T e = 39 then e + 2 else e + 1) x2
        refine ⟨?_, b, fun q => ?_⟩
        · show e + ((sc_quote T L n (if T e = 39 then e + 2 else e + 1)).2.2.length + 1) ≤ (sc_quote T L n (if T e = 39 then e + 2 else e + 1)).2.1
          omega
        · have := c q
          show e + ((sc_quote T L n (if T e = 39 then e + 2 else e + 1)).2.2.length + 1) + 1 ≤ (sc_quote T L n (if T e = 39 then e + 2 else e + 1)).2.1
          omega
theorem sign_le {s : Nat} (h : s < L) : s + 1 ≤ (sc_sign T L s).2 ∧ (sc_sign T L s).2 ≤ L ∧ ¬ (sc_sign T L s).1 = 33 ∧ ¬ (sc_sign T L s).1 = 0 ∧ ¬ (sc_sign T L s).1 = 1 := by
  unfold sc_sign
  split
  · next q => exact ⟨by show s + 1 ≤ s + 2; omega, by show s + 2 ≤ L; omega, by simp, by simp, by simp⟩
  · split
    · next q => exact ⟨by show s + 1 ≤ s + 2; omega, by show s + 2 ≤ L; omega, by simp, by simp, by simp⟩
    · split
      · next q => exact ⟨by show s + 1 ≤ s + 2; omega, by show s + 2 ≤ L; omega, by simp, by simp, by simp⟩
      · split
        · split
          · next q => exact ⟨by show s + 1 ≤ s + 2; omega, by show s + 2 ≤ L; omega, by simp, by simp, by simp⟩
          · exact ⟨Nat.le_refl _, h, by simp, by simp, by simp⟩
        · refine ⟨Nat.le_refl _, h, ?_⟩
          show ¬ sc_mark (T s) = 33 ∧ ¬ sc_mark (T s) = 0 ∧ ¬ sc_mark (T s) = 1
          unfold sc_mark
          repeat' split
          all_goals decide
theorem idx_le (x : List Int32) : ∀ ws : List (List Int32), sc_idx x ws ≤ ws.length
  | [] => Nat.le_refl _
  | y :: ws => by
    unfold sc_idx
    split
    · exact Nat.zero_le _
    · have := idx_le x ws
      show sc_idx x ws + 1 ≤ ws.length + 1
      omega
theorem idx_get (x : List Int32) : ∀ (ws : List (List Int32)) (k : Nat), sc_idx x ws = k → k < ws.length → x = ws.getD k []
  | [], k, h, hk => absurd hk (Nat.not_lt_zero _)
  | y :: ws, k, h, hk => by
    unfold sc_idx at h
    split at h
    · next q => subst h; exact q
    · next q =>
      subst h
      exact idx_get x ws _ rfl (by simpa using hk)
theorem lows_len (s e : Nat) : (sc_lows T s e).length = e - s := by simp [sc_lows]
theorem ofWord_le (s e : Nat) : sc_ofWord T s e ≤ 34 ∧ ¬ sc_ofWord T s e = 33 ∧ (sc_ofWord T s e = 0 ∨ sc_ofWord T s e = 1 → s + 2 ≤ e) := by
  unfold sc_ofWord
  split
  · exact ⟨Nat.le_refl _, by decide, fun h => by omega⟩
  · have := idx_le (sc_lows T s e) sc_words
    have hl : sc_words.length = 15 := rfl
    refine ⟨by omega, by omega, fun h => ?_⟩
    have key : ∀ k, sc_idx (sc_lows T s e) sc_words = k → k < 15 → e - s = (sc_words.getD k []).length := fun k h1 h2 => by
      rw [← idx_get _ _ _ h1 (by omega), lows_len]
    rcases h with h | h
    · have := key 0 h (by decide)
      have e1 : (sc_words.getD 0 []).length = 2 := rfl
      omega
    · have := key 1 h (by decide)
      have e1 : (sc_words.getD 1 []).length = 3 := rfl
      omega
theorem tk_s_le {p : Nat} (h : p ≤ L) : p ≤ tk_s T L p ∧ tk_s T L p ≤ L := ⟨(skip_le _ _ _).1, (skip_le _ _ _).2 h⟩
theorem at_le {s : Nat} (h : s ≤ L) : s ≤ (tk_at T L s).2.1 ∧ (tk_at T L s).2.1 ≤ L ∧ (¬ (tk_at T L s).1 = 33 → s + 1 ≤ (tk_at T L s).2.1) ∧ ((tk_at T L s).1 = 0 ∨ (tk_at T L s).1 = 1 → s + 2 ≤ (tk_at T L s).2.1) ∧ (tk_at T L s).1 < 35 ∧ ((tk_at T L s).1 = 33 → s = L) ∧ ((tk_at T L s).1 = 17 → s + 2 + (tk_at T L s).2.2.2.length ≤ (tk_at T L s).2.1) := by
  unfold tk_at
  by_cases h1 : L ≤ s
  · rw [if_pos h1]
    exact ⟨Nat.le_refl _, h, fun q => absurd rfl q, fun q => by rcases q with q | q <;> exact absurd q (by simp), (by simp), fun _ => by omega, fun q => absurd (show (33 : Nat) = 17 from q) (by decide)⟩
  · rw [if_neg h1]
    by_cases h2 : sc_let (T s)
    · rw [if_pos h2]
      have e1 : sc_word T L (L - s) s = sc_word T L (L - s - 1) (s + 1) := by
        obtain ⟨n, hn⟩ : ∃ n, L - s = n + 1 := ⟨L - s - 1, by omega⟩
        rw [hn, Nat.add_sub_cancel]
        exact if_pos ⟨by omega, .inl h2⟩
      have w1 := word_le (T := T) (L := L) (L - s - 1) (s + 1)
      rw [← e1] at w1
      have w2 := w1.2 (by omega)
      have w3 := ofWord_le (T := T) s (sc_word T L (L - s) s)
      refine ⟨by show s ≤ sc_word T L (L - s) s; omega, w2, fun _ => w1.1, w3.2.2, ?_, fun q => absurd q w3.2.1, fun q => ?_⟩
      · show sc_ofWord T s (sc_word T L (L - s) s) < 35
        omega
      · exfalso
        have q' : sc_ofWord T s (sc_word T L (L - s) s) = 17 := q
        unfold sc_ofWord at q'
        split at q'
        · exact absurd q' (by simp)
        · have := idx_le (sc_lows T s (sc_word T L (L - s) s)) sc_words
          have hl : sc_words.length = 15 := rfl
          omega
    · rw [if_neg h2]
      by_cases h3 : sc_dig (T s)
      · rw [if_pos h3]
        have e1 : ∃ v, sc_int T L (L - s) 0 s = sc_int T L (L - s - 1) v (s + 1) := by
          obtain ⟨n, hn⟩ : ∃ n, L - s = n + 1 := ⟨L - s - 1, by omega⟩
          rw [hn, Nat.add_sub_cancel]
          exact ⟨_, if_pos ⟨by omega, h3⟩⟩
        obtain ⟨v, e1⟩ := e1
        have w1 := int_le (T := T) (L := L) (L - s - 1) v (s + 1)
        rw [← e1] at w1
        have w2 := w1.2 (by omega)
        refine ⟨by show s ≤ (sc_int T L (L - s) 0 s).2; omega, w2, fun _ => w1.1, fun q => ?_, ?_, fun q => ?_, fun q => ?_⟩
        · exfalso
          by_cases hv : 9007199254740991 < (sc_int T L (L - s) 0 s).1 <;> simp [hv] at q
        · show (if 9007199254740991 < (sc_int T L (L - s) 0 s).1 then 34 else 16) < 35
          split <;> decide
        · exfalso
          by_cases hv : 9007199254740991 < (sc_int T L (L - s) 0 s).1 <;> simp [hv] at q
        · exfalso
          by_cases hv : 9007199254740991 < (sc_int T L (L - s) 0 s).1 <;> simp [hv] at q
      · rw [if_neg h3]
        by_cases h4 : T s = 39
        · rw [if_pos h4]
          obtain ⟨a, b, c⟩ := quote_le (T := T) (L := L) (L - s) (s + 1) (by omega)
          refine ⟨by show s ≤ (sc_quote T L (L - s) (s + 1)).2.1; omega, b, fun _ => by show s + 1 ≤ (sc_quote T L (L - s) (s + 1)).2.1; omega, fun q => ?_, ?_, fun q => ?_, fun q => ?_⟩
          · exfalso
            by_cases hv : (sc_quote T L (L - s) (s + 1)).1 = true ∧ sc_alb (sc_quote T L (L - s) (s + 1)).2.2 = true ∧ (sc_quote T L (L - s) (s + 1)).2.2.length ≤ 40
            · rw [if_pos hv] at q; rcases q with q | q <;> exact absurd q (by simp)
            · rw [if_neg hv] at q; rcases q with q | q <;> exact absurd q (by simp)
          · show (if _ then 17 else 34) < 35
            split <;> decide
          · exfalso
            by_cases hv : (sc_quote T L (L - s) (s + 1)).1 = true ∧ sc_alb (sc_quote T L (L - s) (s + 1)).2.2 = true ∧ (sc_quote T L (L - s) (s + 1)).2.2.length ≤ 40
            · rw [if_pos hv] at q; exact absurd q (by simp)
            · rw [if_neg hv] at q; exact absurd q (by simp)
          · by_cases hv : (sc_quote T L (L - s) (s + 1)).1 = true ∧ sc_alb (sc_quote T L (L - s) (s + 1)).2.2 = true ∧ (sc_quote T L (L - s) (s + 1)).2.2.length ≤ 40
            · have := c hv.1
              show s + 2 + (sc_quote T L (L - s) (s + 1)).2.2.length ≤ (sc_quote T L (L - s) (s + 1)).2.1
              omega
            · rw [if_neg hv] at q; exact absurd q (by simp)
        · rw [if_neg h4]
          obtain ⟨a, b, c, d, e⟩ := sign_le (T := T) (L := L) (s := s) (by omega)
          refine ⟨by show s ≤ (sc_sign T L s).2; omega, b, fun _ => a, fun q => ?_, ?_, fun q => absurd q c, fun q => ?_⟩
          · rcases q with q | q
            · exact absurd q d
            · exact absurd q e
          · show (sc_sign T L s).1 < 35
            unfold sc_sign
            have := (mk_small (T s)).1
            repeat' split
            all_goals first | exact this | simp
          · exfalso
            have q' : (sc_sign T L s).1 = 17 := q
            have hm : ¬ sc_mark (T s) = 17 := by
              unfold sc_mark
              repeat' split
              all_goals decide
            unfold sc_sign at q'
            split at q'
            · exact absurd q' (by simp)
            · split at q'
              · exact absurd q' (by simp)
              · split at q'
                · exact absurd q' (by simp)
                · split at q'
                  · split at q' <;> exact absurd q' (by simp)
                  · exact hm q'
/-- all that is known of the sign behind p -/
theorem tk_le {p : Nat} (h : p ≤ L) : p ≤ tk_s T L p ∧ tk_s T L p ≤ tk_e T L p ∧ tk_e T L p ≤ L ∧ (¬ tk_g T L p = 33 → tk_s T L p + 1 ≤ tk_e T L p) ∧ (tk_g T L p = 0 ∨ tk_g T L p = 1 → tk_s T L p + 2 ≤ tk_e T L p) ∧ tk_g T L p < 35 ∧ (tk_g T L p = 17 → tk_s T L p + 2 + (tk_c T L p).length ≤ tk_e T L p) ∧ tk_e T L p ≤ tk_s T L (tk_e T L p) := by
  obtain ⟨a, b⟩ := tk_s_le (T := T) h
  obtain ⟨c, d, e, f, g, i, j⟩ := at_le (T := T) b
  exact ⟨a, c, d, e, f, g, j, (tk_s_le (T := T) d).1⟩
theorem ofWord_not {s e : Nat} : ¬ sc_ofWord T s e = 16 ∧ ¬ sc_ofWord T s e = 17 ∧ ¬ (18 ≤ sc_ofWord T s e ∧ sc_ofWord T s e < 34) := by
  unfold sc_ofWord
  split
  · exact ⟨by decide, by decide, by omega⟩
  · have := idx_le (sc_lows T s e) sc_words
    have hl : sc_words.length = 15 := rfl
    exact ⟨by omega, by omega, by omega⟩
theorem sign_not {s : Nat} : 18 ≤ (sc_sign T L s).1 := by
  have hm : 18 ≤ sc_mark (T s) := by
    unfold sc_mark
    repeat' split
    all_goals decide
  unfold sc_sign
  repeat' split
  all_goals first | exact hm | simp
end Tok
