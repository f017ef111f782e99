/-! ===== the checker: takes, due kinds, fits ===== -/
theorem om_35 : ∀ o, o < 43 → op_map.getD o 0 = 1 → o = 35 := by decide +kernel
theorem om_36 : ∀ o, o < 43 → op_map.getD o 0 = 2 → o = 36 := by decide +kernel
theorem om_37 : ∀ o, o < 43 → op_map.getD o 0 = 3 → o = 37 := by decide +kernel
theorem om_38 : ∀ o, o < 43 → op_map.getD o 0 = 4 → o = 38 := by decide +kernel
theorem om_41 : ∀ o, o < 43 → op_map.getD o 0 = 5 → o = 41 := by decide +kernel
theorem om_39 : ∀ o, o < 43 → op_map.getD o 0 = 6 → o = 39 := by decide +kernel
theorem om_40 : ∀ o, o < 43 → op_map.getD o 0 = 7 → o = 40 := by decide +kernel
theorem om_no : ∀ o, o < 43 → ((op_map.getD o 0).toInt < 1 ∨ 7 < (op_map.getD o 0).toInt) → ¬ (o = 35 ∨ o = 36 ∨ o = 37 ∨ o = 38) ∧ ¬ o = 41 ∧ ¬ o = 39 ∧ ¬ o = 40 := by decide +kernel
section ClCheck
variable {z : State} {l : Launch} {d : Nat} {σ : Hp} {ad : Nat → Nat} {w : Wd} {Q : Outcome → Hp → Prop} {op sg : Nat → Nat} {aO aS mO mS : Nat}
theorem cc_fits {k due : Int32} (hc : CW z σ ad) (k1 : Q (.returned (some (.int (b2i (decide (sp_fits k due)))))) (ov σ ad 21 w)) : Go z l mt_C_fits (d + 9) 0 [.int k, .int due] [] (ov σ ad 21 w) Q := by
  have key : ∀ b : Bool, decide (sp_fits k due) = b → Q (.returned (some (.int (b2i b)))) (ov σ ad 21 w) := fun b e => by rw [← e]; exact k1
  refine cs_C_fits (d := d) hc (fun h => key true (decide_eq_true (Or.inl h))) (fun _ h => key true (decide_eq_true (Or.inr (Or.inl h)))) (fun _ _ h => key true (decide_eq_true (Or.inr (Or.inr (Or.inl h))))) (fun a b c e => key false (decide_eq_false (fun q => ?_))) (fun _ _ _ h => key true (decide_eq_true (Or.inr (Or.inr (Or.inr h)))))
  rcases q with q | q | q | q
  · exact a q
  · exact b q
  · exact c q
  · exact e q
theorem cc_due {o i n : Nat} (hc : CW z σ ad) (hs : gj_St z op sg aO aS mO mS) (ho : o < 43) (hi : i < n) (hn : n < 2 ^ 30) (k : Q (.returned (some (.int (sp_due o i n)))) (ov σ ad 21 w)) : Go z l mt_C_dueKind (d + 9) 0 [.ref (op o), .int (nI i), .int (nI n)] [] (ov σ ad 21 w) Q := by
  have key : ∀ x : Int32, sp_due o i n = x → Q (.returned (some (.int x))) (ov σ ad 21 w) := fun b e => by rw [← e]; exact k
  have em : nI i - nI i / 2 * 2 = nI (i % 2) := pk_rem (d := 2) (by omega) (by omega) (by omega)
  have e1 : nI n - 1 = nI (n - 1) := pk_sub (b := 1) (by omega)
  have z0 : ∀ j, j < 2 ^ 31 → (nI j = 0 ↔ j = 0) := fun j hj => by rw [← nI_0]; exact nI_eq hj (by omega)
  refine cs_C_dueKind (d := d) hc hs ho (fun h h2 => key _ ?_) (fun h h2 => key _ ?_) (fun h h2 => key _ ?_) (fun h h2 h3 => key _ ?_) (fun h h2 h3 => key _ ?_)
  · rw [z0 i (by omega)] at h2
    rw [sp_due, if_neg (fun q => h (by rw [q])), if_neg h2]
  · rw [z0 i (by omega)] at h2
    rw [sp_due, if_neg (fun q => h (by rw [q])), if_pos h2]
  · rw [em, z0 _ (by omega)] at h2
    rw [sp_due, if_pos (op_inj hs ho (by decide) h), if_neg (fun q => h2 q.1)]
  · rw [e1, nI_leI (by omega) (by omega)] at h3
    rw [sp_due, if_pos (op_inj hs ho (by decide) h), if_neg (fun q => by omega)]
  · rw [em, z0 _ (by omega)] at h2
    rw [e1, nI_leI (by omega) (by omega)] at h3
    rw [sp_due, if_pos (op_inj hs ho (by decide) h), if_pos ⟨h2, by omega⟩]
end ClCheck
theorem cc_takes {z : State} {l : Launch} {d : Nat} {σ : Hp} {ad : Nat → Nat} {w : Wd} {Q : Outcome → Hp → Prop} {op sg : Nat → Nat} {aO aS mO mS : Nat} {o n : Nat} (hc : CW z σ ad) (hs : gj_St z op sg aO aS mO mS) (ho : o < 43) (hn : n < 2 ^ 31) (k : Q (.returned (some (.int (b2i (sp_takes o n))))) (ov σ ad 21 w)) : Go z l mt_O_takes (d + 9) 0 [.ref (op o), .int (nI n)] [] (ov σ ad 21 w) Q := by
  have key : ∀ b : Bool, sp_takes o n = b → Q (.returned (some (.int (b2i b)))) (ov σ ad 21 w) := fun b e => by rw [← e]; exact k
  have q1 : nI n = 1 ↔ n = 1 := nI_eq (b := 1) hn (by omega)
  have q2 : nI n = 2 ↔ n = 2 := nI_eq (b := 2) hn (by omega)
  have q3 : nI n = 3 ↔ n = 3 := nI_eq (b := 3) hn (by omega)
  have q4 : nI n < 1 ↔ n < 1 := nI_ltI (b := 1) hn (by omega)
  refine cs_O_takes (d := d) hc hs ho (fun h h2 => key false ?_) (fun h h2 => key true ?_) (fun h h2 => key false ?_) (fun h h2 => key true ?_) (fun h h2 => key false ?_) (fun h h2 => key true ?_) (fun h h2 => key false ?_) (fun h h2 => key true ?_) (fun h h2 => key false ?_) (fun h h2 => key true ?_) (fun h h2 => key false ?_) (fun h h2 => key true ?_) (fun h h2 => key false ?_) (fun h h2 => key true ?_) (fun h h2 => key false ?_) (fun h h2 => key true ?_)
  · obtain ⟨a, b, c, e⟩ := om_no o ho h
    have := op_inj hs ho (by decide) h2
    subst this
    rfl
  · obtain ⟨a, b, c, e⟩ := om_no o ho h
    rw [sp_takes, if_neg a, if_neg b, if_neg c, if_neg e]
    exact decide_eq_true (fun q => h2 (by rw [q]))
  · rw [om_35 o ho h]; rw [q1] at h2; simp [sp_takes, h2]
  · rw [om_35 o ho h]; rw [q1] at h2; simp [sp_takes, h2]
  · rw [om_36 o ho h]; rw [q1] at h2; simp [sp_takes, h2]
  · rw [om_36 o ho h]; rw [q1] at h2; simp [sp_takes, h2]
  · rw [om_37 o ho h]; rw [q1] at h2; simp [sp_takes, h2]
  · rw [om_37 o ho h]; rw [q1] at h2; simp [sp_takes, h2]
  · rw [om_38 o ho h]; rw [q1] at h2; simp [sp_takes, h2]
  · rw [om_38 o ho h]; rw [q1] at h2; simp [sp_takes, h2]
  · rw [om_41 o ho h]; rw [q2] at h2; simp [sp_takes, h2]
  · rw [om_41 o ho h]; rw [q2] at h2; simp [sp_takes, h2]
  · rw [om_39 o ho h]; rw [q3] at h2; simp [sp_takes, h2]
  · rw [om_39 o ho h]; rw [q3] at h2; simp [sp_takes, h2]
  · rw [om_40 o ho h]; rw [q4] at h2; simp [sp_takes]; omega
  · rw [om_40 o ho h]; rw [q4] at h2; simp [sp_takes]; omega
