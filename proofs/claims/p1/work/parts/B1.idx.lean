/-! ===== strings of the library: places of a character, of a string ===== -/
section Idx
variable {z : State} {l : Launch} {d : Nat} {σ : Hp} {Q : Outcome → Hp → Prop}
/-- the place of a character c: not below zero if it is there -/
theorem str_idx {a : Nat} {xs : List Int32} {j : Nat} (hA : Str σ a xs) (hx : xs.length ≤ 5000) (hj : j ≤ 255) (k : ∀ r : Int32, (0 ≤ r ↔ ∃ i, i < xs.length ∧ xs.getD i 0 = (nI j).toInt8.toInt32) → Q (.returned (some (.int r))) σ) : Go z l mt_JString_indexOf_0 (d + 12) 0 [.ref a, .int (nI j)] [] σ Q := by
  obtain ⟨h1, h2, r, h3, h4, h5, h6⟩ := hA
  refine js_JString_indexOf_0 (d := d + 3) h1 (js_JString_indexOf_1 (d := d + 2) h1 h2 h3 h4 ?_)
  rw [shr0, h5]
  have ei : (if (0 : Int32) < 0 then (0 : Int32) else 0) = 0 := by decide
  have el : (if nI (σ.len r) < nI xs.length then nI (σ.len r) else nI xs.length) = nI xs.length := by rw [h5]; split <;> rfl
  have done : ∀ r9 : Int32, (0 ≤ r9 ↔ ∃ i, i < xs.length ∧ xs.getD i 0 = (nI j).toInt8.toInt32) → gj_next z l mt_JString_indexOf_1 (d + 11) 17 [.ref a, .int (nI j), .int 0] [] (fun o σ1 => hp_Le σ σ1 → gj_next z l mt_JString_indexOf_0 (d + 12) 3 [.ref a, .int (nI j)] [] Q o σ1) (.returned (some (.int r9))) σ := fun r9 h9 =>
    gj_nextI (js_JString_indexOf_1_20 (d := d + 2) (fun _ => gj_nextI (js_JString_indexOf_0_6 (d := d + 3) (k r9 h9))))
  refine js_JStringLatin1_indexOf_0 (d := d + 1) h4 (fun h => absurd h (nI_pos (by omega))) (fun _ h => absurd h (show ¬ nI 255 < nI j from nI_nlt (by omega) (by decide))) (fun _ _ _ => ?_) (fun _ _ h => ?_)
  · rw [ei, el]
    refine js_JStringLatin1_indexOfChar (d := d) ?_
    have loop : ∀ (m i : Nat), i + m = xs.length → (∀ t, t < i → ¬ xs.getD t 0 = (nI j).toInt8.toInt32) → Go z l mt_JStringLatin1_indexOfChar (d + 9) 7 [.ref r, .int (nI j), .int 0, .int (nI xs.length), .int (nI j).toInt8.toInt32, .int (nI i)] [] σ (fun o σ1 => hp_Le σ σ1 → gj_next z l mt_JStringLatin1_indexOf_0 (d + 10) 33 [.ref r, .int (nI j), .int 0, .int (nI xs.length)] [] (fun o σ1 => hp_Le σ σ1 → gj_next z l mt_JString_indexOf_1 (d + 11) 17 [.ref a, .int (nI j), .int 0] [] (fun o σ1 => hp_Le σ σ1 → gj_next z l mt_JString_indexOf_0 (d + 12) 3 [.ref a, .int (nI j)] [] Q o σ1) o σ1) o σ1) := by
      intro m
      induction m with
      | zero =>
        intro i hi hno
        have e : nI xs.length ≤ nI i := nI_le (by omega) (by omega)
        refine js_JStringLatin1_indexOfChar_7 (d := d) h4 (fun _ _ => gj_nextI (js_JStringLatin1_indexOf_0_36 (d := d + 1) (fun _ => done (-1) ?_))) (fun h => absurd e h) (fun h => absurd e h) (fun h => absurd e h)
        exact ⟨fun h => absurd h (by decide), fun ⟨t, ht, he⟩ => absurd he (hno t (by omega))⟩
      | succ m ih =>
        intro i hi hno
        have e : ¬ nI xs.length ≤ nI i := nI_ge (by omega) (by omega)
        have ec : (nI i).toNatClampNeg = i := nI_clamp (by omega)
        refine js_JStringLatin1_indexOfChar_7 (d := d) h4 (fun h => absurd h e) (fun _ => by rw [h5]; exact vp_in_nI (by omega) (by omega)) (fun _ h => ?_) (fun _ h => ?_)
        · rw [ec, h6 i (by omega)] at h
          rw [nI_1]
          refine ih (i + 1) (by omega) (fun t ht => ?_)
          by_cases e : t = i
          · rw [e]; exact h
          · exact hno t (by omega)
        · rw [ec, h6 i (by omega)] at h
          exact fun _ => gj_nextI (js_JStringLatin1_indexOf_0_36 (d := d + 1) (fun _ => done (nI i) ⟨fun _ => ⟨i, by omega, h⟩, fun _ => Int32.not_lt.mp (nI_pos (by omega))⟩))
    exact loop xs.length 0 (Nat.zero_add _) (fun t ht => absurd ht (Nat.not_lt_zero _))
  · rw [ei, el] at h
    have h9 : xs.length = 0 := by
      rcases Nat.eq_zero_or_pos xs.length with e | e
      · exact e
      · exact absurd (show nI 0 < nI xs.length from nI_lt e (by omega)) h
    exact fun _ => done (-1) ⟨fun h => absurd h (by decide), fun ⟨t, ht, he⟩ => absurd ht (by omega)⟩
/-- ys stands in xs from p on -/
def occ (xs ys : List Int32) (p : Nat) : Prop := p + ys.length ≤ xs.length ∧ ∀ t, t < ys.length → xs.getD (p + t) 0 = ys.getD t 0
theorem str_ios {a b : Nat} {xs ys : List Int32} (hA : Str σ a xs) (hB : Str σ b ys) (hx : xs.length ≤ 5000) (hx0 : 0 < xs.length) (hy : ys.length ≤ 5000) (hy0 : 0 < ys.length) (k : ∀ r : Int32, (0 ≤ r ↔ ∃ p, occ xs ys p) → Q (.returned (some (.int r))) σ) : Go z l mt_JString_indexOf_2 (d + 12) 0 [.ref a, .ref b, .retAddr 0] [] σ Q := by
  obtain ⟨h1, h2, r, h3, h4, h5, h6⟩ := hA
  obtain ⟨g1, g2, q, g3, g4, g5, g6⟩ := hB
  refine js_JString_indexOf_2 (d := d + 3) h1 h2 g1 g2 h3 g3 ?_
  refine js_JStringLatin1_indexOf_2 (d := d + 2) g4 h4 (fun _ _ => ?_) (fun _ h => ?_) (fun h => ?_)
  · rw [h5, g5]
    let Q1 : Outcome → Hp → Prop := fun o σ1 => hp_Le σ σ1 → gj_next z l mt_JStringLatin1_indexOf_2 (d + 11) 21 [.ref r, .ref q] [] (fun o σ1 => hp_Le σ σ1 → gj_next z l mt_JString_indexOf_2 (d + 12) 28 [.ref a, .ref b, .int 0] [] Q o σ1) o σ1
    have done : ∀ r9 : Int32, (0 ≤ r9 ↔ ∃ p, occ xs ys p) → Q1 (.returned (some (.int r9))) σ := fun r9 h9 _ =>
      gj_nextI (js_JStringLatin1_indexOf_2_24 (d := d + 2) (fun _ => gj_nextI (js_JString_indexOf_2_31 (d := d + 3) (k r9 h9))))
    show Go z l mt_JStringLatin1_indexOf_1 (d + 10) 0 _ [] σ Q1
    refine js_JStringLatin1_indexOf_1 (d := d + 1) g4 (by rw [g5]; exact vp_in_nI (by omega) (by omega)) ?_
    rw [cl_0, g6 0 hy0]
    -- the last place
    obtain ⟨mx9, hmx9⟩ : ∃ v : Int32, v = nI xs.length - nI ys.length := ⟨_, rfl⟩
    have hmxI : mx9.toInt = (xs.length : Int) - ys.length := by rw [hmx9]; exact pk_sub_toInt (by omega) (by omega)
    have hlt : ∀ i, i ≤ 6000 → (mx9 < nI i ↔ xs.length < i + ys.length) := fun i hi => by
      rw [Int32.lt_iff_toInt_lt, hmxI, show (nI i).toInt = (i : Int) by rw [gj_nn (nI_pos (by omega)), nI_clamp (by omega)]]
      omega
    rw [← hmx9]
    have en : ∀ n, nI (n + 1) - 1 = nI n := fun n => by rw [← nI_1]; exact Int32.add_sub_cancel _ _
    have fin : ∀ i, (∀ p, p < i → ¬ occ xs ys p) → xs.length < i + ys.length → Q1 (.returned (some (.int (-1)))) σ := fun i hno hi => done _ ⟨fun h => absurd h (by decide), fun ⟨p, hp⟩ => absurd hp (hno p (by have := hp.1; omega))⟩
    -- comparing at i
    have cmp : ∀ i, (∀ p, p < i → ¬ occ xs ys p) → i + ys.length ≤ xs.length → xs.getD i 0 = ys.getD 0 0 →
        (∀ v8 v9 v10 : Int32, (∀ p, p < i + 1 → ¬ occ xs ys p) → Go z l mt_JStringLatin1_indexOf_1 (d + 10) 14 [.ref r, .int (nI xs.length), .ref q, .int (nI ys.length), .int 0, .int (ys.getD 0 0), .int mx9, .int (nI (i + 1)), .int v8, .int v9, .int v10] [] σ Q1) →
        ∀ (m t : Nat), t + 1 + m = ys.length → (∀ j, j < t + 1 → xs.getD (i + j) 0 = ys.getD j 0) → Go z l mt_JStringLatin1_indexOf_1 (d + 10) 76 [.ref r, .int (nI xs.length), .ref q, .int (nI ys.length), .int 0, .int (ys.getD 0 0), .int mx9, .int (nI i), .int (nI (i + 1 + t)), .int (nI (i + ys.length)), .int (nI (1 + t))] [] σ Q1 := by
      intro i hno hi h0 next m
      induction m with
      | zero =>
        intro t ht hj
        have e : nI (i + ys.length) ≤ nI (i + 1 + t) := nI_le (by omega) (by omega)
        have e2 : nI (i + 1 + t) = nI (i + ys.length) := congrArg nI (by omega)
        refine js_JStringLatin1_indexOf_1_76 (d := d + 1) h4 g4 (fun _ h => absurd e2 h) (fun _ _ => done (nI i) ⟨fun _ => ⟨i, hi, fun t9 ht9 => hj t9 (by omega)⟩, fun _ => Int32.not_lt.mp (nI_pos (by omega))⟩) (fun h => absurd e h) (fun h => absurd e h) (fun h => absurd e h) (fun h => absurd e h) (fun h => absurd e h)
      | succ m ih =>
        intro t ht hj
        have e : ¬ nI (i + ys.length) ≤ nI (i + 1 + t) := nI_ge (by omega) (by omega)
        have e2 : ¬ nI (i + 1 + t) = nI (i + ys.length) := fun h => by
          have := (nI_eq (by omega) (by omega)).mp h
          omega
        have c1 : (nI (i + 1 + t)).toNatClampNeg = i + 1 + t := nI_clamp (by omega)
        have c2 : (nI (1 + t)).toNatClampNeg = 1 + t := nI_clamp (by omega)
        refine js_JStringLatin1_indexOf_1_76 (d := d + 1) h4 g4 (fun h => absurd h e) (fun h => absurd h e) (fun _ => by rw [h5]; exact vp_in_nI (by omega) (by omega)) (fun _ => by rw [g5]; exact vp_in_nI (by omega) (by omega)) (fun _ h _ => ?_) (fun _ _ h => absurd h e2) (fun _ h => ?_)
        · rw [c1, c2, h6 _ (by omega), g6 _ (by omega)] at h
          rw [nI_1]
          refine next _ _ _ (fun p hp ho => ?_)
          by_cases ep : p = i
          · subst ep
            refine h ?_
            have := ho.2 (1 + t) (by omega)
            rw [← Nat.add_assoc] at this
            exact this
          · exact hno p (by omega) ho
        · rw [c1, c2, h6 _ (by omega), g6 _ (by omega)] at h
          rw [nI_1, nI_1]
          refine ih (t + 1) (by omega) (fun j hj2 => ?_)
          by_cases ej : j = t + 1
          · rw [ej, show i + (t + 1) = i + 1 + t by omega, h, Nat.add_comm]
          · exact hj j (by omega)
    have both : ∀ (n i : Nat), xs.length + 5 ≤ i + n → i ≤ xs.length + 3 → (∀ p, p < i → ¬ occ xs ys p) →
        (∀ u8 u9 u10 : Value, Go z l mt_JStringLatin1_indexOf_1 (d + 10) 14 [.ref r, .int (nI xs.length), .ref q, .int (nI ys.length), .int 0, .int (ys.getD 0 0), .int mx9, .int (nI i), u8, u9, u10] [] σ Q1) ∧
        (i ≤ xs.length → ¬ (xs.getD i 0 = ys.getD 0 0) → Go z l mt_JStringLatin1_indexOf_1 (d + 10) 30 [.ref r, .int (nI xs.length), .ref q, .int (nI ys.length), .int 0, .int (ys.getD 0 0), .int mx9, .int (nI i), .retAddr 0, .retAddr 0, .retAddr 0] [] σ Q1) := by
      intro n
      induction n with
      | zero => intro i h1 h2; omega
      | succ n ih =>
        intro i hn hi hno
        have q30 : i ≤ xs.length → ¬ (xs.getD i 0 = ys.getD 0 0) → Go z l mt_JStringLatin1_indexOf_1 (d + 10) 30 [.ref r, .int (nI xs.length), .ref q, .int (nI ys.length), .int 0, .int (ys.getD 0 0), .int mx9, .int (nI i), .retAddr 0, .retAddr 0, .retAddr 0] [] σ Q1 := fun hi2 hne => by
          have hno1 : ∀ p, p < i + 1 → ¬ occ xs ys p := fun p hp ho => by
            by_cases e : p = i
            · subst e
              exact hne (ho.2 0 hy0)
            · exact hno p (by omega) ho
          have e1 : nI i + 1 = nI (i + 1) := nI_1 i
          have c1 : (nI (i + 1)).toNatClampNeg = i + 1 := nI_clamp (by omega)
          have hm1 := hlt (i + 1) (by omega)
          refine js_JStringLatin1_indexOf_1_30 (d := d + 1) h4 (fun h _ => ?_) (fun h h' => absurd h h') (fun h => ?_) (fun h _ h' => absurd h' h) (fun h h2 _ => ?_) (fun h h2 => ?_)
          · rw [e1] at h ⊢
            rw [nI_1]
            have := hm1.mp h
            refine (ih (i + 1 + 1) (by omega) (by omega) (fun p hp ho => ?_)).1 _ _ _
            have := ho.1
            exact absurd ho (hno1 p (by omega))
          · rw [e1] at h ⊢
            have hle : ¬ xs.length < i + 1 + ys.length := fun q9 => h (hm1.mpr q9)
            rw [h5]
            exact vp_in_nI (by omega) (by omega)
          · rw [e1] at h h2 ⊢
            have hle : ¬ xs.length < i + 1 + ys.length := fun q9 => h (hm1.mpr q9)
            rw [c1, h6 _ (by omega)] at h2
            rw [nI_1, nI_add, show i + 1 + 1 + ys.length = (i + 1 + ys.length) + 1 by omega, en]
            exact cmp (i + 1) hno1 (by omega) h2 (fun v8 v9 v10 hno2 => (ih (i + 1 + 1) (by omega) (by omega) hno2).1 _ _ _) (ys.length - 1) 0 (by omega) (fun j hj => by
              obtain rfl : j = 0 := by omega
              exact h2)
          · rw [e1] at h h2 ⊢
            have hle : ¬ xs.length < i + 1 + ys.length := fun q9 => h (hm1.mpr q9)
            rw [c1, h6 _ (by omega)] at h2
            exact (ih (i + 1) (by omega) (by omega) hno1).2 (by omega) h2
        refine ⟨fun u8 u9 u10 => ?_, q30⟩
        refine go_fgt (ls2 := [.ref r, .int (nI xs.length), .ref q, .int (nI ys.length), .int 0, .int (ys.getD 0 0), .int mx9, .int (nI i), .retAddr 0, .retAddr 0, .retAddr 0]) rfl (fun j v hv hne => ?_) ?_
        · match j, hv with
          | 0, hv => exact hv
          | 1, hv => exact hv
          | 2, hv => exact hv
          | 3, hv => exact hv
          | 4, hv => exact hv
          | 5, hv => exact hv
          | 6, hv => exact hv
          | 7, hv => exact hv
          | 8, hv => exact absurd (Option.some.inj hv).symm hne
          | 9, hv => exact absurd (Option.some.inj hv).symm hne
          | 10, hv => exact absurd (Option.some.inj hv).symm hne
          | _ + 11, hv => cases hv
        · have hm1 := hlt i (by omega)
          have c1 : (nI i).toNatClampNeg = i := nI_clamp (by omega)
          refine js_JStringLatin1_indexOf_1_14 (d := d + 1) h4 (fun h => fin i hno (hm1.mp h)) (fun h => ?_) (fun h _ h' => absurd h' h) (fun h h2 _ => ?_) (fun h h2 => ?_)
          · have hle : ¬ xs.length < i + ys.length := fun q9 => h (hm1.mpr q9)
            rw [h5]
            exact vp_in_nI (by omega) (by omega)
          · have hle : ¬ xs.length < i + ys.length := fun q9 => h (hm1.mpr q9)
            rw [c1, h6 _ (by omega)] at h2
            rw [nI_1, nI_add, show i + 1 + ys.length = (i + ys.length) + 1 by omega, en]
            exact cmp i hno (by omega) h2 (fun v8 v9 v10 hno2 => (ih (i + 1) (by omega) (by omega) hno2).1 _ _ _) (ys.length - 1) 0 (by omega) (fun j hj => by
              obtain rfl : j = 0 := by omega
              exact h2)
          · have hle : ¬ xs.length < i + ys.length := fun q9 => h (hm1.mpr q9)
            rw [c1, h6 _ (by omega)] at h2
            exact q30 (by omega) h2
    exact (both (xs.length + 5) 0 (by omega) (by omega) (fun p hp => absurd hp (Nat.not_lt_zero _))).1 _ _ _
  · rw [h5] at h
    have := (nI_eq (by omega) (by decide)).mp (show nI xs.length = nI 0 from h)
    omega
  · rw [g5] at h
    have := (nI_eq (by omega) (by decide)).mp (show nI ys.length = nI 0 from h)
    omega
end Idx
