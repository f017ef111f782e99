/-! ===== the reference's scanner: whether a word is one of the language ===== -/
def wd_all : List Int32 := [32, 111, 114, 32, 97, 110, 100, 32, 110, 111, 116, 32, 105, 115, 32, 110, 117, 108, 108, 32, 105, 110, 32, 108, 105, 107, 101, 32, 98, 101, 116, 119, 101, 101, 110, 32, 99, 97, 115, 101, 32, 119, 104, 101, 110, 32, 116, 104, 101, 110, 32, 101, 108, 115, 101, 32, 101, 110, 100, 32, 116, 114, 117, 101, 32, 102, 97, 108, 115, 101, 32]
theorem idx_mem {x : List Int32} : ∀ ws : List (List Int32), sc_idx x ws < ws.length ↔ x ∈ ws
  | [] => ⟨fun h => absurd h (Nat.not_lt_zero _), fun h => by cases h⟩
  | y :: ws => by
    rw [sc_idx, List.mem_cons, List.length_cons]
    by_cases e : x = y
    · rw [if_pos e]
      exact ⟨fun _ => Or.inl e, fun _ => Nat.succ_pos _⟩
    · rw [if_neg e, Nat.succ_lt_succ_iff, idx_mem ws]
      exact ⟨Or.inr, fun q => q.resolve_left e⟩
theorem idx_le9 {x : List Int32} : ∀ ws : List (List Int32), sc_idx x ws ≤ ws.length
  | [] => Nat.le_refl _
  | y :: ws => by
    rw [sc_idx]
    split
    · exact Nat.zero_le _
    · exact Nat.succ_le_succ (idx_le9 ws)
set_option maxRecDepth 100000 in
theorem wd_dec : ∀ p, p < 72 → ∀ m, m < 72 → (wd_all.getD p 0 = 32 ∧ wd_all.getD (p + 1 + m) 0 = 32 ∧ 1 ≤ m ∧ p + m + 2 ≤ 71 ∧ ∀ t, t < m → ¬ wd_all.getD (p + 1 + t) 0 = 32) → sc_idx ((wd_all.drop (p + 1)).take m) sc_words < 15 := by decide +kernel
set_option maxRecDepth 100000 in
theorem wd_in : ∀ x ∈ sc_words, ∃ p, p < 72 ∧ p + (32 :: (x ++ [32])).length ≤ wd_all.length ∧ ∀ t, t < (32 :: (x ++ [32])).length → wd_all.getD (p + t) 0 = (32 :: (x ++ [32])).getD t 0 := by decide +kernel
theorem wd_iff {x : List Int32} (h1 : 1 ≤ x.length) (h32 : ∀ t, t < x.length → ¬ x.getD t 0 = 32) : (∃ p, occ wd_all (32 :: (x ++ [32])) p) ↔ x ∈ sc_words := by
  constructor
  · rintro ⟨p, hp, hq⟩
    have l1 : (32 :: (x ++ [32])).length = x.length + 2 := by simp
    have l2 : wd_all.length = 71 := rfl
    rw [l1, l2] at hp
    rw [l1] at hq
    have a0 : wd_all.getD p 0 = 32 := hq 0 (by omega)
    have mid : ∀ t, t < x.length → wd_all.getD (p + 1 + t) 0 = x.getD t 0 := fun t ht => by
      have := hq (t + 1) (by omega)
      rw [show p + (t + 1) = p + 1 + t by omega] at this
      rw [this]
      simp [List.getD, List.getElem?_append_left ht]
    have a1 : wd_all.getD (p + 1 + x.length) 0 = 32 := by
      have := hq (x.length + 1) (by omega)
      rw [show p + (x.length + 1) = p + 1 + x.length by omega] at this
      rw [this]
      simp [List.getD]
    have := wd_dec p (by omega) x.length (by omega) ⟨a0, a1, h1, by omega, fun t ht => by rw [mid t ht]; exact h32 t ht⟩
    have e : (wd_all.drop (p + 1)).take x.length = x := by
      refine List.ext_getElem (by simp [l2]; omega) (fun t a b => ?_)
      have m9 := mid t b
      have l3 : p + 1 + t < wd_all.length := by rw [l2]; omega
      simp only [List.getElem_take, List.getElem_drop]
      simpa [List.getD, l3, b] using m9
    rw [e] at this
    exact (idx_mem sc_words).mp this
  · intro h
    obtain ⟨p, -, h2, h3⟩ := wd_in x h
    exact ⟨p, h2, h3⟩
theorem word_all {T : Nat → Int32} {L : Nat} : ∀ (n e i : Nat), e ≤ i → i < sc_word T L n e → i < L ∧ (sc_let (T i) ∨ sc_dig (T i))
  | 0, e, i, h1, h2 => by rw [sc_word] at h2; omega
  | n + 1, e, i, h1, h2 => by
    rw [sc_word] at h2
    by_cases q : e < L ∧ (sc_let (T e) ∨ sc_dig (T e))
    · rw [if_pos q] at h2
      by_cases e9 : i = e
      · rw [e9]; exact q
      · exact word_all n (e + 1) i (by omega) h2
    · rw [if_neg q] at h2
      omega
theorem low_32 {T : Nat → Int32} {i : Nat} (hT : ∀ i, isB (T i)) (h : sc_let (T i) ∨ sc_dig (T i)) : ¬ sc_low (T i) = 32 := by
  rcases isB_cases (hT i) with ⟨j, hj, e⟩ | ⟨j, hj1, hj2, e⟩
  · rw [e] at h ⊢
    exact (by decide +kernel : ∀ j, j < 128 → sc_let (nI j) ∨ sc_dig (nI j) → ¬ sc_low (nI j) = 32) j (by omega) h
  · rw [e] at h
    exact absurd h ((by decide +kernel : ∀ j, j < 129 → 1 ≤ j → ¬ (sc_let (-nI j) ∨ sc_dig (-nI j))) j (by omega) hj1)
theorem lows_32 {T : Nat → Int32} {L n s : Nat} (hT : ∀ i, isB (T i)) : ∀ t, t < (sc_lows T s (sc_word T L n s)).length → ¬ (sc_lows T s (sc_word T L n s)).getD t 0 = 32 := fun t ht => by
  have ht' := ht
  rw [lows_len] at ht'
  have := word_all (T := T) (L := L) n s (s + t) (by omega) (by omega)
  have e : (sc_lows T s (sc_word T L n s)).getD t 0 = sc_low (T (s + t)) := by
    simp [sc_lows, List.getD, ht']
  rw [e]
  exact low_32 hT this.2
theorem words_short : ∀ x ∈ sc_words, x.length ≤ 7 := by decide
