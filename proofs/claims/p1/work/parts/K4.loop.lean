/-! ===== the law's loop ===== -/
section LawLoop
variable {z : State} {l : Launch} {d : Nat} {am op sg : Nat → Nat} {aO aS mO mS : Nat} {bc ou b L : Nat} {Q : Outcome → Hp → Prop}
theorem JI.nx {H : Hp} {ad : Nat → Nat} {ac ar : Ab} {c s : Nat} (h : JI z H ad am op sg aO aS mO mS ac ar bc ou c s) : H.nx ≤ c + 18000 ∧ H.sl ≤ s + 196000 := by
  obtain ⟨wr, -, b0, vs, ts, S, q, sa, -, -, -, hS, hP, -, -, q1, q2⟩ := h.2.1
  have h1 := hS.2.2.2.2.1.2
  have h2 := hP.1.2.2.2.2.2.2.2.2.1
  have h3 := hP.1.2.2.2.2.2.2.2.2.2.1
  exact ⟨by omega, by omega⟩
theorem sub6 {L p : Nat} (hL : L ≤ 3072) (hp : p ≤ 4000) : nI L - 6 < nI p ↔ L < p + 6 := by
  by_cases h : 6 ≤ L
  · rw [show nI L - 6 = nI (L - 6) from pk_sub (b := 6) h, nI_ltI (by omega) (by omega)]
    omega
  · refine ⟨fun _ => by omega, fun _ => ?_⟩
    have : L = 0 ∨ L = 1 ∨ L = 2 ∨ L = 3 ∨ L = 4 ∨ L = 5 := by omega
    have h0 : (0 : Int32) ≤ nI p := (nI_leI (a := 0) (by omega) (by omega)).mpr (Nat.zero_le _)
    rcases this with rfl | rfl | rfl | rfl | rfl | rfl <;> exact Int32.lt_of_lt_of_le (by decide) h0
theorem and15 (x : Int32) : 0 ≤ (x &&& 15).toInt ∧ (x &&& 15).toInt ≤ 15 := by
  have h : (x &&& 15).toBitVec = x.toBitVec &&& 15#32 := rfl
  have e : (x &&& 15).toInt = ((x &&& 15).toBitVec).toInt := rfl
  rw [e, h]
  have h2 : (x.toBitVec &&& 15#32).toNat ≤ 15 := by
    rw [BitVec.toNat_and]
    exact Nat.and_le_right
  rw [BitVec.toInt_eq_toNat_of_lt (by omega)]
  omega
theorem kl_loop (hz : va_Nc "java/lang/ArithmeticException" "java/lang/IllegalStateException" z) (hb : b < z.heap.size) (hL : L ≤ 3072) {h0 C S : Nat} (kQ : ∀ H : Hp, H.nx ≤ C + 18000 → H.sl ≤ S + 196000 → Q (.returned (some (.int 1))) H) :
    ∀ (n : Nat) (H : Hp) (ad : Nat → Nat) (a : Ab) (p c s : Nat), n ≤ 1 → (n = 1 → a.n = 0) → JI z H ad am op sg aO aS mO mS a a bc ou c s → a.ok → ad 0 = h0 → H.tag b = 22 → H.len b = L → p ≤ L + 6 → L ≤ p + 6 * n → c + 401 * n ≤ C → s + 7206 * n ≤ S → Go z l mt_A_law (d + 900) 23 [.ref b, .ref h0, .ref (am 0), .ref ou, .int (nI p), .retAddr 0, .retAddr 0, .retAddr 0] [] H Q := by
  intro n
  induction n with
  | zero =>
    intro H ad a p c s hn1 hn2 h ha e0 ht hl hp hn hc hs
    have hq : nI (H.len b) - 6 < nI p := by rw [hl]; exact (sub6 hL (by omega)).mpr (by omega)
    have q : ∀ {x : Prop}, ¬ nI (H.len b) - 6 < nI p → x := fun h => absurd hq h
    refine ll_23 (d := d + 891) ht (fun _ => ll_729 (d := d + 891) (kQ H ?_ ?_)) q (fun h => q h) (fun h => q h) (fun h => q h) (fun h => q h) (fun h => q h) (fun h => q h) (fun h => q h) (fun h => q h) (fun h => q h) (fun h => q h) (fun h => q h) (fun h => q h)
    · have := h.nx.1; omega
    · have := h.nx.2; omega
  | succ n ih =>
    intro H ad a p c s hn1 hn2 h ha e0 ht hl hp hn hc hs
    have hle : ¬ nI (H.len b) - 6 < nI p → p + 6 ≤ L := fun q => by
      rw [hl] at q
      exact Nat.le_of_not_lt (fun q9 => q ((sub6 hL (by omega)).mpr q9))
    have kk : ¬ nI (H.len b) - 6 < nI p → LK z l d ad am op sg aO aS mO mS bc ou c s b (nI p) H Q := fun q H' ad' a' j1 ok1 e1 f1 => by
      have h6 := hle q
      refine ll_723 (d := d + 891) ?_
      rw [show nI p + 6 = nI (p + 6) from nI_add p 6, e0]
      exact ih H' ad' a' (p + 6) (c + 401) (s + 7206) (by omega) (fun q => by omega) j1 ok1 (e1.trans e0) ((f1 b hb).1.trans ht) ((f1 b hb).2.1.trans hl) (by omega) (by omega) (by omega) (by omega)
    have ix : ∀ j, j ≤ 5 → ¬ nI (H.len b) - 6 < nI p → vp_in (nI p + nI j) (H.len b) := fun j hj q => by
      have h6 := hle q
      rw [nI_add, hl]
      exact vp_in_nI (by omega) (by omega)
    rw [← e0]
    have hb9 : H.tag b = 22 ∧ b < z.heap.size := ⟨ht, hb⟩
    refine ll_23 (d := d + 891) ht (fun _ => ll_729 (d := d + 891) (kQ H ?_ ?_)) (fun q => ?_) (fun q _ => kk q H ad a (h.wide (by omega) (by omega)) ha rfl (fun x _ => SameC.rfl' _ _))
      (fun q _ => kl_feed h ha hb9 (ix 1 (by omega) q) (ix 2 (by omega) q) (ix 3 (by omega) q) (ix 4 (by omega) q) (ix 5 (by omega) q) (kk q))
      (fun q _ => kl_end h ha hb9 (ix 1 (by omega) q) (kk q))
      (fun q _ => kl_clear h ha hb9 (ix 1 (by omega) q) (ix 2 (by omega) q) (kk q))
      (fun q _ => kl_set h ha hb9 (ix 1 (by omega) q) (ix 2 (by omega) q) (ix 3 (by omega) q) (kk q))
      (fun q _ => kl_text h ha hb9 (ix 1 (by omega) q) (kk q))
      (fun q _ => kl_read h ha (fun q9 => absurd (hn2 (by omega)) (by omega)) hb9 (kk q))
      (fun q _ => kl_kind hz h ha hb9 (kk q))
      (fun q _ => kl_work hz h ha hb9 (kk q))
      (fun q _ => kl_keep h ha hb9 (ix 1 (by omega) q) (kk q))
      (fun q _ => kl_value h ha hb9 (ix 1 (by omega) q) (kk q))
      (fun q _ => kl_count h ha hb9 (ix 1 (by omega) q) (kk q))
    · have := h.nx.1; omega
    · have := h.nx.2; omega
    · have h6 := hle q
      rw [hl]
      exact vp_in_nI (by omega) (by omega)
end LawLoop
