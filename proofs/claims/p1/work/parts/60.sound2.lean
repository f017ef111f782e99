/-! ===== soundness of the other constructs ===== -/
theorem ty_dec {x : Int32} (hx : x = 0 ∨ x = 1) (a c : Va) : ty_ok 2 (v_dec x a c) := by
  unfold v_dec
  split
  · exact ty_b2 (by rcases hx with h | h <;> rw [h] <;> decide)
  · split
    · exact ty_null 2
    · exact ty_b2 (by rcases hx with h | h <;> rw [h] <;> decide)
theorem es_isnull {m : Ex} : EX_S (ex_isnull m) := fun kn R k hr hk he => by
  obtain ⟨k1, k3⟩ := ck1_ok (o := 17) (m := m) (kn := kn) (congrArg Prod.fst hk)
  have hkr := kc_res (k3.symm.trans hk) (by decide)
  rw [show op_result.getD 17 0 = 2 by decide] at hkr
  subst hkr
  by_cases e1 : (m.2.1 R).1 = 0
  · rw [show (ex_isnull m).2.1 R = _ from if_neg (fun q => q e1)]
    exact ty_bool _
  · rw [show (ex_isnull m).2.1 R = _ from if_pos e1] at he
    exact absurd he e1
theorem es_or {m1 m2 : Ex} (s1 : EX_S m1) : EX_S (ex_or m1 m2) := fun kn R k hr hk he => by
  obtain ⟨k1, k2, k3⟩ := ck2_ok (o := 14) (m1 := m1) (m2 := m2) (kn := kn) (congrArg Prod.fst hk)
  have hkr := kc_res (k3.symm.trans hk) (by decide)
  rw [show op_result.getD 14 0 = 2 by decide] at hkr
  subst hkr
  by_cases e1 : (m1.2.1 R).1 = 0
  · have t1 := s1 kn R _ hr (pr0 k1) e1
    by_cases hv : v_tr 1 (m1.2.1 R).2
    · rw [show (ex_or m1 m2).2.1 R = m1.2.1 R from (if_neg (fun q => q e1)).trans (if_pos hv)]
      exact ⟨t1.1, t1.2.1, Or.inr hv.1⟩
    · by_cases e2 : (m2.2.1 R).1 = 0
      · rw [show (ex_or m1 m2).2.1 R = (0, v_dec 1 (m1.2.1 R).2 (m2.2.1 R).2) from (if_neg (fun q => q e1)).trans ((if_neg hv).trans (if_neg (fun q => q e2)))]
        exact ty_dec (Or.inr rfl) _ _
      · rw [show (ex_or m1 m2).2.1 R = m2.2.1 R from (if_neg (fun q => q e1)).trans ((if_neg hv).trans (if_pos e2))] at he
        exact absurd he e2
  · rw [show (ex_or m1 m2).2.1 R = m1.2.1 R from if_pos e1] at he
    exact absurd he e1
theorem es_and {m1 m2 : Ex} (s1 : EX_S m1) : EX_S (ex_and m1 m2) := fun kn R k hr hk he => by
  obtain ⟨k1, k2, k3⟩ := ck2_ok (o := 15) (m1 := m1) (m2 := m2) (kn := kn) (congrArg Prod.fst hk)
  have hkr := kc_res (k3.symm.trans hk) (by decide)
  rw [show op_result.getD 15 0 = 2 by decide] at hkr
  subst hkr
  by_cases e1 : (m1.2.1 R).1 = 0
  · have t1 := s1 kn R _ hr (pr0 k1) e1
    by_cases hv : v_tr 0 (m1.2.1 R).2
    · rw [show (ex_and m1 m2).2.1 R = m1.2.1 R from (if_neg (fun q => q e1)).trans (if_pos hv)]
      exact ⟨t1.1, t1.2.1, Or.inr hv.1⟩
    · by_cases e2 : (m2.2.1 R).1 = 0
      · rw [show (ex_and m1 m2).2.1 R = (0, v_dec 0 (m1.2.1 R).2 (m2.2.1 R).2) from (if_neg (fun q => q e1)).trans ((if_neg hv).trans (if_neg (fun q => q e2)))]
        exact ty_dec (Or.inl rfl) _ _
      · rw [show (ex_and m1 m2).2.1 R = m2.2.1 R from (if_neg (fun q => q e1)).trans ((if_neg hv).trans (if_pos e2))] at he
        exact absurd he e2
  · rw [show (ex_and m1 m2).2.1 R = m1.2.1 R from if_pos e1] at he
    exact absurd he e1
theorem es_between {m1 m2 m3 : Ex} : EX_S (ex_between m1 m2 m3) := fun kn R k hr hk he => by
  obtain ⟨k1, k2, k3, k4⟩ := ck3_ok (o := 19) (m1 := m1) (m2 := m2) (m3 := m3) (kn := kn) (congrArg Prod.fst hk)
  have hkr := kc_res (k4.symm.trans hk) (by decide)
  rw [show op_result.getD 19 0 = 2 by decide] at hkr
  subst hkr
  by_cases e1 : (m1.2.1 R).1 = 0
  · by_cases e2 : (m2.2.1 R).1 = 0
    · by_cases hv : v_tr 0 (v_le (m2.2.1 R).2 (m1.2.1 R).2)
      · rw [show (ex_between m1 m2 m3).2.1 R = (0, (2, 0, [])) from (if_neg (fun q => q e1)).trans ((if_neg (fun q => q e2)).trans (if_pos hv))]
        exact ty_b2 (Or.inl rfl)
      · by_cases e3 : (m3.2.1 R).1 = 0
        · rw [show (ex_between m1 m2 m3).2.1 R = (0, v_dec 0 (v_le (m2.2.1 R).2 (m1.2.1 R).2) (v_le (m1.2.1 R).2 (m3.2.1 R).2)) from (if_neg (fun q => q e1)).trans ((if_neg (fun q => q e2)).trans ((if_neg hv).trans (if_neg (fun q => q e3))))]
          exact ty_dec (Or.inl rfl) _ _
        · rw [show (ex_between m1 m2 m3).2.1 R = m3.2.1 R from (if_neg (fun q => q e1)).trans ((if_neg (fun q => q e2)).trans ((if_neg hv).trans (if_pos e3)))] at he
          exact absurd he e3
    · rw [show (ex_between m1 m2 m3).2.1 R = m2.2.1 R from (if_neg (fun q => q e1)).trans (if_pos e2)] at he
      exact absurd he e2
  · rw [show (ex_between m1 m2 m3).2.1 R = m1.2.1 R from if_pos e1] at he
    exact absurd he e1
theorem es_substr {m1 m2 m3 : Ex} (s1 : EX_S m1) : EX_S (ex_substr m1 m2 m3) := fun kn R k hr hk he => by
  obtain ⟨k1, k2, k3, k4⟩ := ck3_ok (o := 39) (m1 := m1) (m2 := m2) (m3 := m3) (kn := kn) (congrArg Prod.fst hk)
  have hk' := k4.symm.trans hk
  have hkr := kc_res hk' (by decide)
  rw [show op_result.getD 39 0 = 1 by decide] at hkr
  subst hkr
  obtain ⟨g1, -, -⟩ := kc_substr (by rw [hk'])
  by_cases e1 : (m1.2.1 R).1 = 0
  · by_cases e2 : (m2.2.1 R).1 = 0
    · by_cases e3 : (m3.2.1 R).1 = 0
      · have t1 := s1 kn R _ hr (pr0 k1) e1
        by_cases hn : (m1.2.1 R).2.1 = 3 ∨ (m2.2.1 R).2.1 = 3 ∨ (m3.2.1 R).2.1 = 3
        · rw [show (ex_substr m1 m2 m3).2.1 R = (0, v_null) from (if_neg (fun q => q e1)).trans ((if_neg (fun q => q e2)).trans ((if_neg (fun q => q e3)).trans (if_pos hn)))]
          exact ty_null 1
        · rw [show (ex_substr m1 m2 m3).2.1 R = sp_text 39 (m1.2.1 R).2 (m2.2.1 R).2 (m3.2.1 R).2 from (if_neg (fun q => q e1)).trans ((if_neg (fun q => q e2)).trans ((if_neg (fun q => q e3)).trans (if_neg hn)))] at he ⊢
          exact sp_text_ty (by decide) t1.1 (ty_fit t1 (fun q => hn (Or.inl q)) g1 (by decide) (by decide)) (fun q => absurd q (by decide)) he
      · rw [show (ex_substr m1 m2 m3).2.1 R = m3.2.1 R from (if_neg (fun q => q e1)).trans ((if_neg (fun q => q e2)).trans (if_pos e3))] at he
        exact absurd he e3
    · rw [show (ex_substr m1 m2 m3).2.1 R = m2.2.1 R from (if_neg (fun q => q e1)).trans (if_pos e2)] at he
      exact absurd he e2
  · rw [show (ex_substr m1 m2 m3).2.1 R = m1.2.1 R from if_pos e1] at he
    exact absurd he e1
theorem ev_in_ty {x : Va} {R : Nat → Va} : ∀ (ms : List Ex) (acc : Va), ty_ok 2 acc → (ev_in x acc ms R).1 = 0 → ty_ok 2 (ev_in x acc ms R).2 := by
  intro ms
  induction ms with
  | nil => intro acc h _; exact h
  | cons m ms ih =>
    intro acc h he
    have e : ev_in x acc (m :: ms) R = if ¬ (m.2.1 R).1 = 0 then m.2.1 R else if x.1 = 3 ∨ (m.2.1 R).2.1 = 3 then ev_in x (3, 0, []) ms R else if sp_cmp x (m.2.1 R).2 = 0 then (0, (2, 1, [])) else ev_in x acc ms R := rfl
    rw [e] at he ⊢
    by_cases e1 : (m.2.1 R).1 = 0
    · rw [if_neg (fun q => q e1)] at he ⊢
      by_cases hn : x.1 = 3 ∨ (m.2.1 R).2.1 = 3
      · rw [if_pos hn] at he ⊢
        exact ih _ (ty_null 2) he
      · rw [if_neg hn] at he ⊢
        by_cases hz : sp_cmp x (m.2.1 R).2 = 0
        · rw [if_pos hz]; exact ty_b2 (Or.inr rfl)
        · rw [if_neg hz] at he ⊢
          exact ih _ h he
    · rw [if_pos e1] at he
      exact absurd he e1
theorem es_in {mx : Ex} {ms : List Ex} : EX_S (ex_in mx ms) := fun kn R k hr hk he => by
  obtain ⟨k1, k2⟩ := ckn_ok (o := 18) (ms := mx :: ms) (kn := kn) (congrArg Prod.fst hk)
  have hkr := kc_res (k2.symm.trans hk) (by decide)
  rw [show op_result.getD 18 0 = 2 by decide] at hkr
  subst hkr
  by_cases e1 : (mx.2.1 R).1 = 0
  · rw [show (ex_in mx ms).2.1 R = _ from if_neg (fun q => q e1)] at he ⊢
    exact ev_in_ty ms _ (ty_b2 (Or.inl rfl)) he
  · rw [show (ex_in mx ms).2.1 R = mx.2.1 R from if_pos e1] at he
    exact absurd he e1
