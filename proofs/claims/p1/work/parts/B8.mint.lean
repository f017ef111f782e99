/-! ===== the reference's scanner: integers ===== -/
/-- the reference's number beside the spec's -/
def IR (x v : Int64) : Prop := 0 ≤ v.toInt ∧ v.toInt ≤ 9007199254740992 ∧ 0 ≤ x.toInt ∧ x.toInt ≤ 90071992547409920 ∧ (v.toInt ≤ 9007199254740991 → x = v) ∧ (9007199254740991 < v.toInt → 9007199254740991 < x.toInt)
theorem j_m10 {x : Int64} (h1 : 0 ≤ x.toInt) (h2 : x.toInt ≤ 90071992547409920) : (10 * x).toInt = 10 * x.toInt := by
  rw [Int64.toInt_mul, show (10 : Int64).toInt = 10 by decide]
  exact Int.bmod_eq_of_le (by omega) (by omega)
theorem mst_lt {v : Int64} : 9007199254740991 < v ↔ (9007199254740991 : Int) < v.toInt := by
  rw [Int64.lt_iff_toInt_lt, show (9007199254740991 : Int64).toInt = 9007199254740991 by decide]
theorem ms1_lt {v : Int64} : 9007199254740992 < v ↔ (9007199254740992 : Int) < v.toInt := by
  rw [Int64.lt_iff_toInt_lt, show (9007199254740992 : Int64).toInt = 9007199254740992 by decide]
theorem lgc_gt (v : Int64) : 0 < lg_cmp v 9007199254740991 ↔ 9007199254740991 < v := by
  rw [← Int32.not_le, lgc_le]
  exact ⟨fun h => Classical.byContradiction h, fun h q => q h⟩
theorem dig_j {c : Int32} (h : sc_dig c) : 48 ≤ c.toInt64.toInt ∧ c.toInt64.toInt ≤ 57 := by
  have h1 := Int32.le_iff_toInt_le.mp h.1
  have h2 := Int32.le_iff_toInt_le.mp h.2
  rw [Int32.toInt_toInt64]
  exact ⟨h1, h2⟩
theorem dig_step {x : Int64} {c : Int32} (h : sc_dig c) (h1 : 0 ≤ x.toInt) (h2 : x.toInt ≤ 90071992547409920) : (10 * x + c.toInt64 - 48).toInt = 10 * x.toInt + c.toInt64.toInt - 48 := by
  obtain ⟨d1, d2⟩ := dig_j h
  have e1 := j_m10 h1 h2
  have e2 : (10 * x + c.toInt64).toInt = 10 * x.toInt + c.toInt64.toInt := by
    rw [j_add (by rw [e1]; omega) (by rw [e1]; omega), e1]
  rw [j_sub (by rw [e2, show (48 : Int64).toInt = 48 by decide]; omega) (by rw [e2, show (48 : Int64).toInt = 48 by decide]; omega), e2, show (48 : Int64).toInt = 48 by decide]
def sc_dv (v : Int64) (c : Int32) : Int64 := if 9007199254740992 < 10 * v + c.toInt64 - 48 then 9007199254740992 else 10 * v + c.toInt64 - 48
theorem IR.small {x v : Int64} {c : Int32} (h : IR x v) (hd : sc_dig c) (hx : ¬ 9007199254740991 < x) : IR (10 * x + c.toInt64 - 48) (sc_dv v c) := by
  obtain ⟨h1, h2, h3, h4, h5, h6⟩ := h
  rw [mst_lt] at hx
  have hv : v.toInt ≤ 9007199254740991 := by
    rcases Int.lt_or_le 9007199254740991 v.toInt with q | q
    · exact absurd (h6 q) hx
    · exact q
  have e := h5 hv
  subst e
  obtain ⟨d1, d2⟩ := dig_j hd
  have st := dig_step (x := x) hd h3 h4
  unfold sc_dv
  by_cases q : 9007199254740992 < 10 * x + c.toInt64 - 48
  · rw [if_pos q]
    rw [ms1_lt] at q
    refine ⟨by decide, by decide, by omega, by omega, fun r => absurd r (by decide), fun _ => by omega⟩
  · rw [if_neg q]
    rw [ms1_lt] at q
    exact ⟨by omega, by omega, by omega, by omega, fun _ => rfl, fun r => r⟩
theorem IR.big {x v : Int64} {c : Int32} (h : IR x v) (hd : sc_dig c) (hx : 9007199254740991 < x) : IR x (sc_dv v c) := by
  obtain ⟨h1, h2, h3, h4, h5, h6⟩ := h
  rw [mst_lt] at hx
  have hv : v.toInt = 9007199254740992 := by
    rcases Int.lt_or_le 9007199254740991 v.toInt with q | q
    · omega
    · have := h5 q
      rw [this] at hx
      omega
  obtain ⟨d1, d2⟩ := dig_j hd
  have st := dig_step (x := v) hd h1 (by omega)
  unfold sc_dv
  rw [if_pos (by rw [ms1_lt]; omega)]
  exact ⟨by decide, by decide, h3, h4, fun r => absurd r (by decide), fun _ => hx⟩
section MInt
variable {z : State} {l : Launch} {d : Nat} {σ : Hp} {am : Nat → Nat} {Q : Outcome → Hp → Prop} {T : Nat → Int32} {L sa : Nat} {v1 v2 : Int32}
theorem mo_int : ∀ (n e : Nat) (v : Int64) (w : Wd), PM z σ am w T L sa → L ≤ e + n → e ≤ L → w.I 0 46 = nI e → IR (w.J 0 48) v →
    (∀ w', SS w w' → w'.I 0 45 = w.I 0 45 → w'.I 0 46 = nI (sc_int T L n v e).2 → (w'.I 0 44 = if 9007199254740991 < (sc_int T L n v e).1 then 7 else 3) → (¬ 9007199254740991 < (sc_int T L n v e).1 → w'.J 0 48 = (sc_int T L n v e).1) → Q (.returned none) (ov σ am 7 w')) →
    Go z l mt_M_next (d + 10) 145 [.ref (am 0), .int v1, .int v2, .retAddr 0] [] (ov σ am 7 w) Q := by
  intro n
  have fin : ∀ (e : Nat) (v : Int64) (w : Wd), PM z σ am w T L sa → w.I 0 46 = nI e → IR (w.J 0 48) v → (∀ w', SS w w' → w'.I 0 45 = w.I 0 45 → w'.I 0 46 = nI e → (w'.I 0 44 = if 9007199254740991 < v then 7 else 3) → (¬ 9007199254740991 < v → w'.J 0 48 = v) → Q (.returned none) (ov σ am 7 w')) →
      (lg_cmp (w.J 0 48) 9007199254740991 ≤ 0 → Q (.returned none) (ov σ am 7 (w.setI 0 44 3))) ∧ (¬ lg_cmp (w.J 0 48) 9007199254740991 ≤ 0 → Q (.returned none) (ov σ am 7 (w.setI 0 44 7))) := fun e v w hP h46 hI k => by
    obtain ⟨h1, h2, h3, h4, h5, h6⟩ := hI
    refine ⟨fun q => ?_, fun q => ?_⟩
    · rw [lgc_le, mst_lt] at q
      have hv : ¬ 9007199254740991 < v := fun r => q (h6 (mst_lt.mp r))
      exact k _ (SS.setI _ _ (by decide) (by decide)) rfl h46 (by rw [if_neg hv]; rfl) (fun _ => h5 (by rw [mst_lt] at hv; omega))
    · rw [lgc_le, mst_lt] at q
      have hv : 9007199254740991 < v := by
        rw [mst_lt]
        rcases Int.lt_or_le 9007199254740991 v.toInt with r | r
        · exact r
        · rw [h5 r] at q
          omega
      exact k _ (SS.setI _ _ (by decide) (by decide)) rfl h46 (by rw [if_pos hv]; rfl) (fun r => absurd hv r)
  induction n with
  | zero =>
    intro e v w hP hn he h46 hI k
    have hL := hP.2.2.2.2.2.1
    have hT := hP.2.2.2.2.2.2.1
    obtain ⟨k1, k2⟩ := fin e v w hP h46 hI k
    refine cm_M_next_145 (d := d + 1) hP.1 ?_
    rw [h46]
    refine mo_at (d := d) hP (by omega) (fun _ => gj_nextI (cm_M_next_153 (d := d + 1) hP.1 (mo_dig (d := d) hP.1 (fun _ => gj_nextI ?_))))
    rw [decide_eq_false (fun q => by have := ((atv_dig hT).mp q).1; omega)]
    exact cm_M_next_156 (d := d + 1) hP.1 (fun _ => k1) (fun _ => k2) (fun q => absurd rfl q) (fun q => absurd rfl q)
  | succ n ih =>
    intro e v w hP hn he h46 hI k
    have hL := hP.2.2.2.2.2.1
    have hT := hP.2.2.2.2.2.2.1
    refine cm_M_next_145 (d := d + 1) hP.1 ?_
    rw [h46]
    refine mo_at (d := d) hP (by omega) (fun _ => gj_nextI (cm_M_next_153 (d := d + 1) hP.1 (mo_dig (d := d) hP.1 (fun _ => gj_nextI ?_))))
    by_cases hd : sc_dig (atv T L e)
    · obtain ⟨hl9, hd9⟩ := (atv_dig hT).mp hd
      have es : sc_int T L (n + 1) v e = sc_int T L n (sc_dv v (T e)) (e + 1) := if_pos ⟨hl9, hd9⟩
      rw [es] at k
      rw [decide_eq_true hd]
      have ev : atv T L e = T e := atv_val hT hl9 ⟨Int32.le_trans (by decide) hd9.1, Int32.le_trans hd9.2 (by decide)⟩
      refine cm_M_next_156 (d := d + 1) hP.1 (fun q => absurd q (by decide)) (fun q => absurd q (by decide)) (fun _ q => ?_) (fun _ q => ?_)
      · rw [lgc_gt] at q
        have S : SS w (w.setI 0 46 (w.I 0 46 + 1)) := SS.setI _ _ (by decide) (by decide)
        exact ih (e + 1) _ _ (hP.w S) (by omega) (by omega) (by show w.I 0 46 + 1 = _; rw [h46]; exact nI_1 e) (hI.big hd9 q) (fun w' s a b c9 d9 => k w' (S.trans s) a b c9 d9)
      · rw [lgc_gt] at q
        rw [h46]
        refine mo_at (d := d) hP (by omega) (fun _ => gj_nextI (cm_M_next_187 (d := d + 1) hP.1 ?_))
        rw [ev]
        have S : SS w ((w.setJ 0 48 (10 * w.J 0 48 + (T e).toInt64 - 48)).setI 0 46 (w.I 0 46 + 1)) := (SS.setJ _ _ (by decide) (by decide)).trans (SS.setI _ _ (by decide) (by decide))
        exact ih (e + 1) _ _ (hP.w S) (by omega) (by omega) (by show w.I 0 46 + 1 = _; rw [h46]; exact nI_1 e) (hI.small hd9 q) (fun w' s a b c9 d9 => k w' (S.trans s) a b c9 d9)
    · have es : sc_int T L (n + 1) v e = (v, e) := if_neg (fun q => hd ((atv_dig hT).mpr q))
      rw [es] at k
      obtain ⟨k1, k2⟩ := fin e v w hP h46 hI k
      rw [decide_eq_false hd]
      exact cm_M_next_156 (d := d + 1) hP.1 (fun _ => k1) (fun _ => k2) (fun q => absurd rfl q) (fun q => absurd rfl q)
end MInt
