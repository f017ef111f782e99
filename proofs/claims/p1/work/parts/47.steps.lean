/-! ===== what the worker's steps do ===== -/
def v_bool (b : Bool) : Va := (2, if b then 1 else 0, [])
abbrev v_tr (x : Int64) (v : Va) : Prop := v.1 = 2 ∧ v.2.1 = x
theorem v_ok_b (b : Bool) : v_ok (v_bool b) := v_ok_bool (by cases b <;> simp)
def v_dec (x : Int32) (a c : Va) : Va := if v_tr x.toInt64 a ∨ v_tr x.toInt64 c then (2, x.toInt64, []) else if a.1 = 3 ∨ c.1 = 3 then (3, 0, []) else (2, (1 - x).toInt64, [])
def v_le (a b : Va) : Va := if a.1 = 3 ∨ b.1 = 3 then (3, 0, []) else v_bool (decide (sp_cmp a b ≤ 0))
theorem sg_le {r c : Int32} (h : sp_sg r = c) : (0 < r ↔ ¬ c ≤ 0) ∧ (r = 0 ↔ c = 0) ∧ (r < 0 ↔ c < 0) := by
  subst h
  have e0 : (0 : Int32).toInt = 0 := by decide
  unfold sp_sg
  by_cases h1 : r < 0
  · have q := Int32.lt_iff_toInt_lt.mp h1
    rw [if_pos h1]
    refine ⟨⟨fun h => ?_, fun h => absurd (by decide) h⟩, ⟨fun h => ?_, fun h => absurd h (by decide)⟩, fun _ => by decide, fun _ => h1⟩
    · have := Int32.lt_iff_toInt_lt.mp h; omega
    · rw [h] at q; omega
  · rw [if_neg h1]
    by_cases h2 : r = 0
    · rw [if_pos h2]
      refine ⟨⟨fun h => ?_, fun h => absurd (by decide) h⟩, ⟨fun _ => rfl, fun _ => h2⟩, fun h => absurd h h1, fun h => absurd h (by decide)⟩
      rw [h2] at h; exact absurd h (by decide)
    · rw [if_neg h2]
      refine ⟨⟨fun _ => by decide, fun _ => ?_⟩, ⟨fun h => absurd h h2, fun h => absurd h (by decide)⟩, fun h => absurd h h1, fun h => absurd h (by decide)⟩
      refine Int32.lt_iff_toInt_lt.mpr ?_
      have a1 : ¬ r.toInt < 0 := fun q => h1 (Int32.lt_iff_toInt_lt.mpr (by rw [e0]; exact q))
      have a2 : r.toInt ≠ 0 := fun q => h2 (Int32.toInt_inj.mp (by rw [q, e0]))
      omega
/-- the kinds of two values that are compared -/
def v_same (a b : Va) : Prop := a.1 = 3 ∨ b.1 = 3 ∨ a.1 = b.1
section ClSteps
variable {z : State} {l : Launch} {d : Nat} {σ : Hp} {ad : Nat → Nat} {w : Wd} {S : Nat → Va} {Q : Outcome → Hp → Prop} {op sg : Nat → Nat} {aO aS mO mS : Nat} {ko : Nat → Nat}
theorem kd_putDecided {s t : Nat} {x : Int32} (hc : CW z σ ad) (hl : CLk w ad) (hS : SLS w S) (hs : s < 251) (ht : t < 251) (hx : x = 0 ∨ x = 1) (k : ∀ w', SF w w' → SLS w' (va_up S s (v_dec x (S s) (S t))) → Q (.returned none) (ov σ ad 21 w')) :
    Go z l mt_K_putDecided (d + 9) 0 [.ref (ad 20), .int (nI s), .int (nI t), .int x] [] (ov σ ad 21 w) Q := by
  obtain ⟨⟨a1, a2, a3⟩, a4⟩ := hS s hs
  obtain ⟨⟨b1, b2, b3⟩, b4⟩ := hS t ht
  have es : (nI s).toNatClampNeg = s := nI_clamp (by omega)
  have et : (nI t).toNatClampNeg = t := nI_clamp (by omega)
  have is : vp_in (nI s) 251 := vp_in_nI hs (by omega)
  have it : vp_in (nI t) 251 := vp_in_nI ht (by omega)
  have hok : v_ok (v_dec x (S s) (S t)) := by
    unfold v_dec
    split
    · exact v_ok_bool (by rcases hx with h | h <;> rw [h] <;> decide)
    · split
      · exact v_ok_null
      · exact v_ok_bool (by rcases hx with h | h <;> rw [h] <;> decide)
  have key : ∀ (kd : Int32) (y : Int64), v_dec x (S s) (S t) = (kd, y, []) → Q (.returned none) (ov σ ad 21 ((w.rowI 4 (va_up (w.eI 4) s kd)).rowJ 5 (va_up ((w.rowI 4 (va_up (w.eI 4) s kd)).eJ 5) s y))) := fun kd y e => by
    refine k _ ((sf_4 _ _).trans (sf_5 _ _)) ?_
    rw [e]
    exact hS.num s (by rw [← e]; exact hok)
  apply cs_K_putDecided (d := d) hc hl
  all_goals try simp only [es, et, a1, a2, b1, b2, lg_cmp_eq]
  all_goals intros
  all_goals first
    | exact is
    | exact it
    | (refine key _ _ ?_; simp_all [v_dec, v_tr])
theorem kd_putAtMost {to s t : Nat} (hc : CW z σ ad) (hl : CLk w ad) (hS : SLS w S) (h0 : to < 251) (hs : s < 251) (ht : t < 251) (hk : v_same (S s) (S t)) (k : ∀ w', SF w w' → SLS w' (va_up S to (v_le (S s) (S t))) → Q (.returned none) (ov σ ad 21 w')) :
    Go z l mt_K_putAtMost (d + 11) 0 [.ref (ad 20), .int (nI to), .int (nI s), .int (nI t)] [] (ov σ ad 21 w) Q := by
  obtain ⟨⟨a1, a2, a3⟩, a4⟩ := hS s hs
  obtain ⟨⟨b1, b2, b3⟩, b4⟩ := hS t ht
  have e0 : (nI to).toNatClampNeg = to := nI_clamp (by omega)
  have es : (nI s).toNatClampNeg = s := nI_clamp (by omega)
  have et : (nI t).toNatClampNeg = t := nI_clamp (by omega)
  have i0 : vp_in (nI to) 251 := vp_in_nI h0 (by omega)
  have is : vp_in (nI s) 251 := vp_in_nI hs (by omega)
  have it : vp_in (nI t) 251 := vp_in_nI ht (by omega)
  have key : ∀ (kd : Int32) (y : Int64), v_le (S s) (S t) = (kd, y, []) → v_ok (kd, y, []) → Q (.returned none) (ov σ ad 21 ((w.rowI 4 (va_up (w.eI 4) (nI to).toNatClampNeg kd)).rowJ 5 (va_up ((w.rowI 4 (va_up (w.eI 4) (nI to).toNatClampNeg kd)).eJ 5) (nI to).toNatClampNeg y))) := fun kd y e ok => by
    rw [e0]
    refine k _ ((sf_4 _ _).trans (sf_5 _ _)) ?_
    rw [e]
    exact hS.num to ok
  refine cs_K_putAtMost (d := d + 2) hc hl is (fun _ => it) (fun h1 h2 => ?_) (fun _ _ => i0) (fun _ _ => i0) (fun h1 h2 => ?_) (fun _ => i0) (fun _ => i0) (fun h1 => ?_)
  · rw [es, a1] at h1
    rw [et, b1] at h2
    have hk' : (S s).1 = (S t).1 := hk.elim (fun h => absurd h h1) (fun h => h.elim (fun h => absurd h h2) id)
    refine cl_compare (d := d) hc hl hs ht ⟨a1, a2, a3⟩ ⟨b1, b2, b3⟩ a4 b4 hk' (fun r hr _ => gj_nextI (cs_K_putAtMost_47 (d := d + 2) hc hl (fun _ => i0) (fun _ => i0) (fun h => ?_) (fun _ => i0) (fun _ => i0) (fun h => ?_)))
    · refine key _ _ ?_ (v_ok_bool (Or.inl rfl))
      rw [v_le, if_neg (fun q => q.elim h1 h2), decide_eq_false ((sg_le hr).1.mp h)]
      rfl
    · refine key _ _ ?_ (v_ok_bool (Or.inr rfl))
      rw [v_le, if_neg (fun q => q.elim h1 h2), decide_eq_true (Decidable.not_not.mp (fun q => h ((sg_le hr).1.mpr q)))]
      rfl
  · rw [et, b1] at h2
    exact key _ _ (by rw [v_le, if_pos (Or.inr h2)]) v_ok_null
  · rw [es, a1] at h1
    exact key _ _ (by rw [v_le, if_pos (Or.inl h1)]) v_ok_null
end ClSteps
