/-! ===== the reference: what functions answer ===== -/
theorem ch_nI {c : Int32} (h : ch_ok c) : ∃ j, 32 ≤ j ∧ j ≤ 126 ∧ c = nI j := by
  obtain ⟨j, hj, rfl⟩ := nI_of (Int32.not_lt.mpr (Int32.le_trans (by decide) h.1))
  have h2 : nI j ≤ nI 126 := h.2
  have h1 : nI 32 ≤ nI j := h.1
  exact ⟨j, (nI_leI (by decide) (by omega)).mp h1, (nI_leI (by omega) (by decide)).mp h2, rfl⟩
theorem low_ok : ∀ j, j < 127 → 32 ≤ j → 32 ≤ sp_low (nI j) ∧ sp_low (nI j) ≤ 126 := by decide +kernel
theorem upp_ok : ∀ j, j < 127 → 32 ≤ j → 32 ≤ sp_upp (nI j) ∧ sp_upp (nI j) ≤ 126 := by decide +kernel
theorem low_x : ∀ j, j < 127 → ¬ nI j < 65 → ¬ 90 < nI j → nI j + 32 = nI j ^^^ 32 := by decide +kernel
theorem upp_x : ∀ j, j < 127 → ¬ nI j < 97 → ¬ 122 < nI j → nI j - 32 = nI j ^^^ 32 := by decide +kernel
theorem xor_low (j : Nat) (hj : j < 127) (h1 : 32 ≤ j) : ch_ok (sp_low (nI j)) ∧ (nI j < 65 → sp_low (nI j) = nI j) ∧ (¬ nI j < 65 → 90 < nI j → sp_low (nI j) = nI j) ∧ (¬ nI j < 65 → ¬ 90 < nI j → sp_low (nI j) = nI j ^^^ 32) :=
  ⟨low_ok j hj h1, fun a => if_pos a, fun a b => (if_neg a).trans (if_pos b), fun a b => ((if_neg a).trans (if_neg b)).trans (low_x j hj a b)⟩
theorem xor_upp (j : Nat) (hj : j < 127) (h1 : 32 ≤ j) : ch_ok (sp_upp (nI j)) ∧ (nI j < 97 → sp_upp (nI j) = nI j) ∧ (¬ nI j < 97 → 122 < nI j → sp_upp (nI j) = nI j) ∧ (¬ nI j < 97 → ¬ 122 < nI j → sp_upp (nI j) = nI j ^^^ 32) :=
  ⟨upp_ok j hj h1, fun a => if_pos a, fun a b => (if_neg a).trans (if_pos b), fun a b => ((if_neg a).trans (if_neg b)).trans (upp_x j hj a b)⟩
theorem gm9 (xs : List Int32) (i : Nat) (hi : i < xs.length) : xs.getD i 0 ∈ xs := by
  rw [show xs.getD i 0 = xs[i]'hi by simp [List.getD, hi]]
  exact List.getElem_mem _
theorem take_snoc (xs : List Int32) (i : Nat) (hi : i < xs.length) : xs.take (i + 1) = xs.take i ++ [xs.getD i 0] := by
  rw [List.take_add_one]
  congr 1
  simp [List.getD, hi]
/-- what of a text lies in a cut, a character on -/
theorem cut_in (A : List Int32) {lo hi i : Nat} (h : i < A.length) (h1 : lo ≤ i) (h2 : i < hi) : (A.take (min (i + 1) hi)).drop lo = (A.take (min i hi)).drop lo ++ [A.getD i 0] := by
  rw [show min (i + 1) hi = i + 1 by omega, show min i hi = i by omega, take_snoc A i h, List.drop_append_of_le_length (by rw [List.length_take]; omega)]
theorem cut_no (A : List Int32) {lo hi i : Nat} (h : i < lo ∨ hi ≤ i) : (A.take (min (i + 1) hi)).drop lo = (A.take (min i hi)).drop lo := by
  rcases h with h | h
  · rw [List.drop_eq_nil_of_le (by rw [List.length_take]; omega), List.drop_eq_nil_of_le (by rw [List.length_take]; omega)]
  · rw [show min (i + 1) hi = min i hi by omega]
section MFn
variable {lo u nhi : Nat} {σ0 : Hp} {am : Nat → Nat} {n b nm cap h : Nat} {cs : List Int32} {ps : List Nat} {z : State} {l : Launch} {d : Nat} {σ : Hp} {w : Wd} {R : Nat → Va} {q : Po} {Q : Outcome → Hp → Prop} {v1 v2 v3 kv : Nat} {x y c : Va}
/-- NULL among the parts -/
theorem mo_124 (H : FnH lo u nhi σ0 am n b nm cap cs ps) (E : EM z σ am w R q) (A : Ag lo u nhi 0 0 σ0 σ) (n6 : ¬ sc_idx cs sc_funs = 6) (V1 : VF σ am q v1 x) (V2 : VF σ am q v2 y) (V3 : VF σ am q v3 c) (o1 : k4 x.1) (o2 : k4 y.1) (o3 : k4 c.1) (hk : q.k < 4000) (h1 : 1 ≤ kv) (kN : x.1 = 3 ∨ y.1 = 3 ∨ c.1 = 3 → VR z am R σ w q v_null kv Q)
    (kO : ¬ x.1 = 3 → ¬ y.1 = 3 → ¬ c.1 = 3 → Go z l mt_M_called (d + 2 * h + 12 + 9) 190 [.ref (am 0), .ref n, .ref v1, .ref v2, .ref v3, .retAddr 0, .retAddr 0, .retAddr 0, .retAddr 0, .retAddr 0] [.int (b2i (decide (sc_idx cs sc_funs = 0)))] (ov σ am 7 w) Q) :
    Go z l mt_M_called (d + 2 * h + 12 + 9) 124 [.ref (am 0), .ref n, .ref v1, .ref v2, .ref v3, .retAddr 0, .retAddr 0, .retAddr 0, .retAddr 0, .retAddr 0] [.int (b2i (decide (sc_idx cs sc_funs = 6)))] (ov σ am 7 w) Q := by
  obtain ⟨N1, hA, hS⟩ := H.at A
  have t1 : σ.I 70 v1 = 0 ↔ x.1 = 3 := by rw [V1.1.2.1]; exact mty_0 o1
  have t2 : σ.I 70 v2 = 0 ↔ y.1 = 3 := by rw [V2.1.2.1]; exact mty_0 o2
  have t3 : σ.I 70 v3 = 0 ↔ c.1 = 3 := by rw [V3.1.2.1]; exact mty_0 o3
  have nul : (x.1 = 3 ∨ y.1 = 3 ∨ c.1 = 3) → Go z l mt_M_value_1 (d + 2 * h + 12 + 8) 0 [.ref (am 0), .int 0, .long 0, .retAddr 0, .retAddr 0, .retAddr 0] [] (ov σ am 7 w) (fun o σ1 => hp_Le (ov σ am 7 w) σ1 → gj_next z l mt_M_called (d + 2 * h + 12 + 9) 176 [.ref (am 0), .ref n, .ref v1, .ref v2, .ref v3, .retAddr 0, .retAddr 0, .retAddr 0, .retAddr 0, .retAddr 0] [] Q o σ1) := fun e => go_eq (show d + 2 * h + 11 + 9 = d + 2 * h + 12 + 8 by omega) (mo_null (d := d + 2 * h + 11) E hk h1 (fun σ' w' q' v' E' F' W' V' _ => gj_nextI (cm_M_called_179 (d := d + 2 * h + 12) E'.1 (kN e σ' w' q' v' E' F' W' V'))))
  rw [decide_eq_false n6]
  exact cm_M_called_124 (d := d + 2 * h + 12) (b5 := nm) E.1 V1.1.1 V2.1.1 V3.1.1 N1.1 hS.1.1 (fun _ e => nul (Or.inl (t1.mp e))) (fun _ _ e => nul (Or.inr (Or.inl (t2.mp e)))) (fun _ _ _ _ => hA) (fun _ e1 e2 e3 => fn_eq (j := 0) E.1 hS H.2.2.2.2.2.2.1 (by decide) (ms_c338 E.2.2.1) (fun _ => gj_nextI (kO (fun r => e1 (t1.mpr r)) (fun r => e2 (t2.mpr r)) (fun r => e3 (t3.mpr r))))) (fun _ _ _ e => nul (Or.inr (Or.inr (t3.mp e)))) (fun q9 => absurd rfl q9)
/-- a text is begun -/
theorem mo_190t (H : FnH lo u nhi σ0 am n b nm cap cs ps) (E : EM z σ am w R q) (A : Ag lo u nhi 0 0 σ0 σ) (F : ∀ a, Dp lo u nhi 0 0 σ0 a → Fr σ am q a) (n0 : ¬ sc_idx cs sc_funs = 0) (n1 : ¬ sc_idx cs sc_funs = 1) (V1 : VF σ am q v1 x) (hk : q.k < 4000) (h1 : 1 ≤ kv)
    (kO : ∀ σ' w' q' v t, TS z am σ w q σ' w' q' v t [] kv → ¬ Fr σ am q v → ¬ Fr σ am q t → EM z σ' am w' R q' → Ag lo u nhi 0 0 σ0 σ' → Go z l mt_M_called (d + 2 * h + 12 + 9) 247 [.ref (am 0), .ref n, .ref v1, .ref v2, .ref v3, .ref v, .retAddr 0, .retAddr 0, .retAddr 0, .retAddr 0] [.int (b2i (decide (sc_idx cs sc_funs = 4)))] (ov σ' am 7 w') Q) :
    Go z l mt_M_called (d + 2 * h + 12 + 9) 190 [.ref (am 0), .ref n, .ref v1, .ref v2, .ref v3, .retAddr 0, .retAddr 0, .retAddr 0, .retAddr 0, .retAddr 0] [.int (b2i (decide (sc_idx cs sc_funs = 0)))] (ov σ am 7 w) Q := by
  obtain ⟨N1, hA, hS⟩ := H.at A
  have hcs := H.2.2.2.2.2.2.1
  rw [decide_eq_false n0]
  refine cm_M_called_190 (d := d + 2 * h + 12) (b2 := nm) E.1 N1.1 hS.1.1 V1.1.1 (fun _ => hA) (fun _ => fn_eq (j := 1) E.1 hS hcs (by decide) (ms_c340 E.2.2.1) (fun _ => gj_nextI ?_)) (fun q9 => absurd rfl q9)
  rw [decide_eq_false n1]
  refine cm_M_called_215 (d := d + 2 * h + 12) E.1 V1.1.1 (fun _ => go_eq (show d + 2 * h + 11 + 9 = d + 2 * h + 12 + 8 by omega) (mo_newt (d := d + 2 * h + 11) E hk h1 (fun σ' w' q' v t T nv nt _ => gj_nextI ?_))) (fun q9 => absurd rfl q9)
  have E' : EM z σ' am w' R q' := E.mv T.2.2.1 T.2.2.2.1 T.1 T.2.1
  obtain ⟨A', -⟩ := Ag.ev A F T.1
  obtain ⟨N2, hA2, hS2⟩ := H.at A'
  exact cm_M_called_235 (d := d + 2 * h + 12) (b2 := nm) E'.1 N2.1 hS2.1.1 hA2 (fn_eq (j := 4) E'.1 hS2 hcs (by decide) (ms_c345 E'.2.2.1) (fun _ => gj_nextI (kO σ' w' q' v t T nv nt E' A')))
/-- ABS, LENGTH, UPPER, LOWER -/
theorem mo_one1 {o : Nat} (H : FnH lo u nhi σ0 am n b nm cap cs ps) (E : EM z σ am w R q) (A : Ag lo u nhi 0 0 σ0 σ) (F : ∀ a, Dp lo u nhi 0 0 σ0 a → Fr σ am q a) (ho : o = 35 + sc_idx cs sc_funs) (ho2 : o ≤ 38) (V1 : VF σ am q v1 x) (ox : v_ok x) (tx0 : o = 35 → x.1 = 0) (tx1 : ¬ o = 35 → x.1 = 1) (hk : q.k < 4000) (h1 : 1 ≤ kv)
    (kO : (sp_st o x v_null v_null).1 = 0 → VR z am R σ w q (sp_st o x v_null v_null).2 kv Q) (kE : ¬ (sp_st o x v_null v_null).1 = 0 → VE z am R σ w q (sp_st o x v_null v_null).1 kv Q) :
    Go z l mt_M_called (d + 2 * h + 12 + 9) 190 [.ref (am 0), .ref n, .ref v1, .ref v1, .ref v1, .retAddr 0, .retAddr 0, .retAddr 0, .retAddr 0, .retAddr 0] [.int (b2i (decide (sc_idx cs sc_funs = 0)))] (ov σ am 7 w) Q := by
  obtain ⟨N1, hA, hS⟩ := H.at A
  have hcs := H.2.2.2.2.2.2.1
  have one : ¬ (1 : Int32) = 0 := by decide
  have hd : o = 35 ∨ o = 36 ∨ o = 37 ∨ o = 38 := by omega
  rcases hd with e | e | e | e
  · -- ABS
    subst e
    have x0 := tx0 rfl
    have st : sp_st 35 x v_null v_null = (sp_fin (0, j_abs x.2.1), (0, j_abs x.2.1, [])) := rfl
    rw [st] at kO kE
    rw [decide_eq_true (show sc_idx cs sc_funs = 0 by omega)]
    refine cm_M_called_190 (d := d + 2 * h + 12) (b2 := nm) E.1 N1.1 hS.1.1 V1.1.1 (fun q9 => absurd (show (1 : Int32) = 0 from q9) one) (fun q9 => absurd (show (1 : Int32) = 0 from q9) one) (fun _ => ?_)
    rw [V1.1.2.2.1 (Or.inl x0)]
    exact go_eq (show d + 2 * h + 10 + 10 = d + 2 * h + 12 + 8 by omega) (mo_number (d := d + 2 * h + 10) (n := j_abs x.2.1) E hk h1 (fun e4 σ' w' q' E' F' W' _ => gj_nextT (go_out (fun _ h => nomatch h) (by
      have k9 := kE (by rw [e4]; exact (show ¬ (4 : Int32) = 0 by decide)) σ' w' q' E' F' W'
      rw [e4] at k9
      exact k9))) (fun e4 σ' w' q' v E' F' W' V' _ => gj_nextI (cm_M_called_204 (d := d + 2 * h + 12) E'.1 (kO e4 σ' w' q' v E' F' W' V'))))
  · -- LENGTH
    subst e
    have x1 := tx1 (by decide)
    have st : sp_st 36 x v_null v_null = (sp_fin (0, x.2.1), (0, x.2.1, [])) := rfl
    rw [st] at kO kE
    obtain ⟨t, tx⟩ := V1.1.tx x1
    have xl := (ox.text x1).1
    have e72 : (σ.I 72 v1).toInt64 = x.2.1 := by
      rw [tx.2.1, xl]
      exact lN_ofI (by have := tx.2.2.1; omega)
    rw [decide_eq_false (show ¬ sc_idx cs sc_funs = 0 by omega)]
    refine cm_M_called_190 (d := d + 2 * h + 12) (b2 := nm) E.1 N1.1 hS.1.1 V1.1.1 (fun _ => hA) (fun _ => fn_eq (j := 1) E.1 hS hcs (by decide) (ms_c340 E.2.2.1) (fun _ => gj_nextI ?_)) (fun q9 => absurd rfl q9)
    rw [decide_eq_true (show sc_idx cs sc_funs = 1 by omega)]
    refine cm_M_called_215 (d := d + 2 * h + 12) E.1 V1.1.1 (fun q9 => absurd (show (1 : Int32) = 0 from q9) one) (fun _ => ?_)
    rw [e72]
    exact go_eq (show d + 2 * h + 10 + 10 = d + 2 * h + 12 + 8 by omega) (mo_number (d := d + 2 * h + 10) (n := x.2.1) E hk h1 (fun e4 σ' w' q' E' F' W' _ => gj_nextT (go_out (fun _ h => nomatch h) (by
      have k9 := kE (by rw [e4]; exact (show ¬ (4 : Int32) = 0 by decide)) σ' w' q' E' F' W'
      rw [e4] at k9
      exact k9))) (fun e4 σ' w' q' v E' F' W' V' _ => gj_nextI (cm_M_called_227 (d := d + 2 * h + 12) E'.1 (kO e4 σ' w' q' v E' F' W' V'))))
  all_goals
    subst e
    have x1 := tx1 (by decide)
    obtain ⟨xl, xc⟩ := ox.text x1
    have x40 := ox.len
    obtain ⟨s, hs⟩ : ∃ s, σ.A 73 v1 = some s := by
      obtain ⟨-, -, -, m, -, -, s, hs, -⟩ := V1.1
      exact ⟨s, hs⟩
    refine mo_190t (kv := kv) H E A F (by omega) (by omega) V1 hk h1 (fun σ1 w1 q1 v t T1 nv nt E1 A1 => ?_)
    obtain ⟨N2, hA2, hS2⟩ := H.at A1
    have V3' := V1.mv T1.1
    rw [decide_eq_false (show ¬ sc_idx cs sc_funs = 4 by omega)]
  -- UPPER
  · have st : sp_st 37 x v_null v_null = (0, (1, lN (x.2.2.map (sp_let 1)).length, x.2.2.map (sp_let 1))) := rfl
    rw [st] at kO
    have loop : ∀ (m i : Nat) (σ2 : Hp), i + m = x.2.2.length → TS z am σ w q σ2 w1 q1 v t ((x.2.2.take i).map (sp_let 1)) kv → Go z l mt_M_called (d + 2 * h + 12 + 9) 352 [.ref (am 0), .ref n, .ref v1, .ref v1, .ref v1, .ref v, .int 1, .int (nI i), .retAddr 0, .retAddr 0] [] (ov σ2 am 7 w1) Q := by
      intro m
      induction m with
      | zero =>
        intro i σ2 hi T2
        obtain ⟨g1, g2, g3, g4, g5, g6, g7⟩ := T2.chr V1 x1 hs
        have cc : σ2.I 72 v1 ≤ nI i := by rw [g2]; exact nI_le (by omega) (by omega)
        rw [List.take_of_length_le (by omega)] at T2
        exact cm_M_called_352 (d := d + 2 * h + 12) (b2 := s) T2.2.2.1 g1 g5 g4 (fun _ => kO rfl σ2 w1 q1 v (E.mv T2.2.2.1 T2.2.2.2.1 T2.1 T2.2.1) T2.1 T2.2.1 T2.vf) (fun q9 => absurd cc q9) (fun q9 => absurd cc q9) (fun q9 => absurd cc q9) (fun q9 => absurd cc q9) (fun q9 => absurd cc q9) (fun q9 => absurd cc q9) (fun q9 => absurd cc q9) (fun q9 => absurd cc q9)
      | succ m ih =>
        intro i σ2 hi T2
        obtain ⟨g1, g2, g3, g4, g5, g6, g7⟩ := T2.chr V1 x1 hs
        have cc : ¬ σ2.I 72 v1 ≤ nI i := by rw [g2]; exact nI_ge (by omega) (by omega)
        have ei : (nI i).toNatClampNeg = i := nI_clamp (by omega)
        have ln : ((x.2.2.take i).map (sp_let 1)).length = i := by rw [List.length_map, List.length_take]; omega
        obtain ⟨j, hj1, hj2, hj⟩ := ch_nI (xc _ (gm9 _ i (by omega)))
        obtain ⟨c1, c2, c3, c4⟩ := xor_upp j (by omega) hj1
        have put : ∀ (c8 : Int32) (a8 a9 : Int32), c8 = sp_upp (nI j) → Go z l mt_M_put (d + 2 * h + 12 + 8) 0 [.ref (am 0), .ref v, .int c8] [] (ov σ2 am 7 w1) (fun o σ1 => hp_Le (ov σ2 am 7 w1) σ1 → gj_next z l mt_M_called (d + 2 * h + 12 + 9) 436 [.ref (am 0), .ref n, .ref v1, .ref v1, .ref v1, .ref v, .int 1, .int (nI i), .int a8, .int a9] [] Q o σ1) := fun c8 a8 a9 e8 => by
          refine go_eq (show d + 2 * h + 11 + 9 = d + 2 * h + 12 + 8 by omega) (mo_put (d := d + 2 * h + 11) E T2 nv nt (by rw [e8]; exact c1) (fun e => by rw [ln] at e; omega) (fun e σ3 T3 _ => gj_nextV (cm_M_called_439 (d := d + 2 * h + 12) T3.2.2.1 (go_drop 8 (go_drop 9 ?_)))))
          rw [nI_1]
          refine ih (i + 1) σ3 (by omega) ?_
          rw [take_snoc _ i (by omega), List.map_append]
          rw [e8, ← hj] at T3
          exact T3
        refine cm_M_called_352 (d := d + 2 * h + 12) (b2 := s) T2.2.2.1 g1 g5 g4 (fun q9 => absurd q9 cc) (fun _ => g3) (fun _ => by rw [g6]; exact vp_in_nI (by omega) (by omega)) (fun _ q9 => absurd (show (1 : Int32) = 0 from q9) one) (fun _ q9 => absurd (show (1 : Int32) = 0 from q9) one) (fun _ q9 => absurd (show (1 : Int32) = 0 from q9) one) (fun _ _ => ?_) (fun _ _ => ?_) (fun _ _ => ?_) <;> rw [ei, g7 i (by omega), hj]
        · exact fun a => put _ _ _ (c2 a).symm
        · exact fun a b => put _ _ _ (c3 a b).symm
        · exact fun a b => put _ _ _ (c4 a b).symm
    refine cm_M_called_247 (d := d + 2 * h + 12) (b2 := nm) E1.1 E1.2.1 N2.1 hS2.1.1 V3'.1.1 (fun _ => hA2) (fun _ => fn_eq (j := 2) E1.1 hS2 hcs (by decide) (ms_c341 E1.2.2.1) (fun _ => gj_nextI (cm_M_called_347 (d := d + 2 * h + 12) E1.1 ?_))) (fun q9 => absurd rfl q9) (fun q9 => absurd rfl q9)
    rw [decide_eq_true (show sc_idx cs sc_funs = 2 by omega)]
    exact loop x.2.2.length 0 σ1 (Nat.zero_add _) T1
  -- LOWER
  · have st : sp_st 38 x v_null v_null = (0, (1, lN (x.2.2.map (sp_let 0)).length, x.2.2.map (sp_let 0))) := rfl
    rw [st] at kO
    have loop : ∀ (m i : Nat) (σ2 : Hp), i + m = x.2.2.length → TS z am σ w q σ2 w1 q1 v t ((x.2.2.take i).map (sp_let 0)) kv → Go z l mt_M_called (d + 2 * h + 12 + 9) 352 [.ref (am 0), .ref n, .ref v1, .ref v1, .ref v1, .ref v, .int 0, .int (nI i), .retAddr 0, .retAddr 0] [] (ov σ2 am 7 w1) Q := by
      intro m
      induction m with
      | zero =>
        intro i σ2 hi T2
        obtain ⟨g1, g2, g3, g4, g5, g6, g7⟩ := T2.chr V1 x1 hs
        have cc : σ2.I 72 v1 ≤ nI i := by rw [g2]; exact nI_le (by omega) (by omega)
        rw [List.take_of_length_le (by omega)] at T2
        exact cm_M_called_352 (d := d + 2 * h + 12) (b2 := s) T2.2.2.1 g1 g5 g4 (fun _ => kO rfl σ2 w1 q1 v (E.mv T2.2.2.1 T2.2.2.2.1 T2.1 T2.2.1) T2.1 T2.2.1 T2.vf) (fun q9 => absurd cc q9) (fun q9 => absurd cc q9) (fun q9 => absurd cc q9) (fun q9 => absurd cc q9) (fun q9 => absurd cc q9) (fun q9 => absurd cc q9) (fun q9 => absurd cc q9) (fun q9 => absurd cc q9)
      | succ m ih =>
        intro i σ2 hi T2
        obtain ⟨g1, g2, g3, g4, g5, g6, g7⟩ := T2.chr V1 x1 hs
        have cc : ¬ σ2.I 72 v1 ≤ nI i := by rw [g2]; exact nI_ge (by omega) (by omega)
        have ei : (nI i).toNatClampNeg = i := nI_clamp (by omega)
        have ln : ((x.2.2.take i).map (sp_let 0)).length = i := by rw [List.length_map, List.length_take]; omega
        obtain ⟨j, hj1, hj2, hj⟩ := ch_nI (xc _ (gm9 _ i (by omega)))
        obtain ⟨c1, c2, c3, c4⟩ := xor_low j (by omega) hj1
        have put : ∀ (c8 : Int32) (a8 a9 : Int32), c8 = sp_low (nI j) → Go z l mt_M_put (d + 2 * h + 12 + 8) 0 [.ref (am 0), .ref v, .int c8] [] (ov σ2 am 7 w1) (fun o σ1 => hp_Le (ov σ2 am 7 w1) σ1 → gj_next z l mt_M_called (d + 2 * h + 12 + 9) 436 [.ref (am 0), .ref n, .ref v1, .ref v1, .ref v1, .ref v, .int 0, .int (nI i), .int a8, .int a9] [] Q o σ1) := fun c8 a8 a9 e8 => by
          refine go_eq (show d + 2 * h + 11 + 9 = d + 2 * h + 12 + 8 by omega) (mo_put (d := d + 2 * h + 11) E T2 nv nt (by rw [e8]; exact c1) (fun e => by rw [ln] at e; omega) (fun e σ3 T3 _ => gj_nextV (cm_M_called_439 (d := d + 2 * h + 12) T3.2.2.1 (go_drop 8 (go_drop 9 ?_)))))
          rw [nI_1]
          refine ih (i + 1) σ3 (by omega) ?_
          rw [take_snoc _ i (by omega), List.map_append]
          rw [e8, ← hj] at T3
          exact T3
        refine cm_M_called_352 (d := d + 2 * h + 12) (b2 := s) T2.2.2.1 g1 g5 g4 (fun q9 => absurd q9 cc) (fun _ => g3) (fun _ => by rw [g6]; exact vp_in_nI (by omega) (by omega)) (fun _ _ => ?_) (fun _ _ => ?_) (fun _ _ => ?_) (fun _ q9 => absurd rfl q9) (fun _ q9 => absurd rfl q9) (fun _ q9 => absurd rfl q9) <;> rw [ei, g7 i (by omega), hj]
        · exact fun a => put _ _ _ (c2 a).symm
        · exact fun a b => put _ _ _ (c3 a b).symm
        · exact fun a b => put _ _ _ (c4 a b).symm
    refine cm_M_called_247 (d := d + 2 * h + 12) (b2 := nm) E1.1 E1.2.1 N2.1 hS2.1.1 V3'.1.1 (fun _ => hA2) (fun _ => fn_eq (j := 2) E1.1 hS2 hcs (by decide) (ms_c341 E1.2.2.1) (fun _ => gj_nextI (cm_M_called_347 (d := d + 2 * h + 12) E1.1 ?_))) (fun q9 => absurd rfl q9) (fun q9 => absurd rfl q9)
    rw [decide_eq_false (show ¬ sc_idx cs sc_funs = 2 by omega)]
    exact loop x.2.2.length 0 σ1 (Nat.zero_add _) T1
/-- SUBSTR -/
theorem mo_substr (H : FnH lo u nhi σ0 am n b nm cap cs ps) (E : EM z σ am w R q) (A : Ag lo u nhi 0 0 σ0 σ) (F : ∀ a, Dp lo u nhi 0 0 σ0 a → Fr σ am q a) (ho : sc_idx cs sc_funs = 4) (V1 : VF σ am q v1 x) (V2 : VF σ am q v2 y) (V3 : VF σ am q v3 c) (ox : v_ok x) (x1 : x.1 = 1) (y0 : y.1 = 0) (c0 : c.1 = 0) (yi : v_in y) (ci : v_in c) (hk : q.k < 4000) (h1 : 1 ≤ kv)
    (kO : (sp_text 39 x y c).1 = 0 → VR z am R σ w q (sp_text 39 x y c).2 kv Q) (kE : ¬ (sp_text 39 x y c).1 = 0 → VE z am R σ w q (sp_text 39 x y c).1 kv Q) :
    Go z l mt_M_called (d + 2 * h + 12 + 9) 190 [.ref (am 0), .ref n, .ref v1, .ref v2, .ref v3, .retAddr 0, .retAddr 0, .retAddr 0, .retAddr 0, .retAddr 0] [.int (b2i (decide (sc_idx cs sc_funs = 0)))] (ov σ am 7 w) Q := by
  have one : ¬ (1 : Int32) = 0 := by decide
  obtain ⟨xl, xc⟩ := ox.text x1
  have x40 := ox.len
  obtain ⟨yb1, yb2⟩ := yi y0
  obtain ⟨cb1, cb2⟩ := ci c0
  obtain ⟨s, hs⟩ : ∃ s, σ.A 73 v1 = some s := by
    obtain ⟨-, -, -, m, -, -, s, hs, -⟩ := V1.1
    exact ⟨s, hs⟩
  have st : sp_text 39 x y c = if c.2.1 < 0 then (6, x) else (0, (1, lN (sp_cut x.2.2 y.2.1.toInt c.2.1.toInt).length, sp_cut x.2.2 y.2.1.toInt c.2.1.toInt)) := rfl
  rw [st] at kO kE
  refine mo_190t (kv := kv) H E A F (by omega) (by omega) V1 hk h1 (fun σ1 w1 q1 v t T1 nv nt E1 A1 => ?_)
  obtain ⟨N2, hA2, hS2⟩ := H.at A1
  rw [decide_eq_true ho]
  have V3' := V3.mv T1.1
  have j3 : σ1.J 71 v3 = c.2.1 := V3'.1.2.2.1 (Or.inl c0)
  have lt0 : lg_cmp (σ1.J 71 v3) 0 < 0 ↔ c.2.1 < 0 := by
    rw [j3, lgc_lt0, Int64.lt_iff_toInt_lt]
  refine cm_M_called_247 (d := d + 2 * h + 12) (b2 := nm) E1.1 E1.2.1 N2.1 hS2.1.1 V3'.1.1 (fun q9 => absurd (show (1 : Int32) = 0 from q9) one) (fun q9 => absurd (show (1 : Int32) = 0 from q9) one) (fun _ e9 => ?_) (fun _ e9 => ?_)
  · rw [if_pos (lt0.mp e9)] at kE
    exact kE (show ¬ (6 : Int32) = 0 by decide) σ1 w1 q1 E1 T1.1 T1.2.1
  have c9 : ¬ c.2.1 < 0 := fun r => e9 (lt0.mpr r)
  rw [if_neg c9] at kO
  have cn : 0 ≤ c.2.1.toInt := by
    rw [Int64.lt_iff_toInt_lt] at c9
    have : (0 : Int64).toInt = 0 := rfl
    omega
  have sum : (y.2.1 + c.2.1).toInt = y.2.1.toInt + c.2.1.toInt := j_add (by omega) (by omega)
  have loop : ∀ (m i : Nat) (σ2 : Hp), i + m = x.2.2.length → TS z am σ w q σ2 w1 q1 v t ((x.2.2.take (min i (min (y.2.1.toInt + c.2.1.toInt - 1) x.2.2.length).toNat)).drop (max y.2.1.toInt 1 - 1).toNat) kv → Go z l mt_M_called (d + 2 * h + 12 + 9) 274 [.ref (am 0), .ref n, .ref v1, .ref v2, .ref v3, .ref v, .int (nI i), .retAddr 0, .retAddr 0, .retAddr 0] [] (ov σ2 am 7 w1) Q := by
    intro m
    induction m with
    | zero =>
      intro i σ2 hi T2
      obtain ⟨g1, g2, g3, g4, g5, g6, g7⟩ := T2.chr V1 x1 hs
      have cc : σ2.I 72 v1 ≤ nI i := by rw [g2]; exact nI_le (by omega) (by omega)
      rw [show min i (min (y.2.1.toInt + c.2.1.toInt - 1) x.2.2.length).toNat = (min (y.2.1.toInt + c.2.1.toInt - 1) x.2.2.length).toNat by omega] at T2
      exact cm_M_called_274 (d := d + 2 * h + 12) (b4 := s) T2.2.2.1 g1 (V2.mv T2.1).1.1 (V3.mv T2.1).1.1 g5 g4 (fun _ => kO rfl σ2 w1 q1 v (E.mv T2.2.2.1 T2.2.2.2.1 T2.1 T2.2.1) T2.1 T2.2.1 T2.vf) (fun q9 => absurd cc q9) (fun q9 => absurd cc q9) (fun q9 => absurd cc q9) (fun q9 => absurd cc q9) (fun q9 => absurd cc q9)
    | succ m ih =>
      intro i σ2 hi T2
      obtain ⟨g1, g2, g3, g4, g5, g6, g7⟩ := T2.chr V1 x1 hs
      have cc : ¬ σ2.I 72 v1 ≤ nI i := by rw [g2]; exact nI_ge (by omega) (by omega)
      have ei : (nI i).toNatClampNeg = i := nI_clamp (by omega)
      have jy : σ2.J 71 v2 = y.2.1 := (V2.mv T2.1).1.2.2.1 (Or.inl y0)
      have jc : σ2.J 71 v3 = c.2.1 := (V3.mv T2.1).1.2.2.1 (Or.inl c0)
      have ii : ((nI i).toInt64 + 1).toInt = (i : Int) + 1 := by
        have e1 : (nI i).toInt64.toInt = (i : Int) := by rw [Int32.toInt_toInt64, nI_toInt (by omega)]
        have e2 : (1 : Int64).toInt = 1 := rfl
        rw [j_add (by omega) (by omega), e1, e2]
      have l1 : lg_cmp ((nI i).toInt64 + 1) (σ2.J 71 v2) < 0 ↔ (i : Int) + 1 < y.2.1.toInt := by rw [jy, lgc_lt0, ii]
      have l2 : 0 ≤ lg_cmp ((nI i).toInt64 + 1) (σ2.J 71 v2 + σ2.J 71 v3) ↔ y.2.1.toInt + c.2.1.toInt ≤ (i : Int) + 1 := by rw [jy, jc, lg_cmp_ge, Int64.le_iff_toInt_le, sum, ii]
      have skip : (i < (max y.2.1.toInt 1 - 1).toNat ∨ (min (y.2.1.toInt + c.2.1.toInt - 1) x.2.2.length).toNat ≤ i) → Go z l mt_M_called (d + 2 * h + 12 + 9) 274 [.ref (am 0), .ref n, .ref v1, .ref v2, .ref v3, .ref v, .int (nI i + 1), .retAddr 0, .retAddr 0, .retAddr 0] [] (ov σ2 am 7 w1) Q := fun e => by
        rw [nI_1]
        refine ih (i + 1) σ2 (by omega) ?_
        rw [cut_no x.2.2 e]
        exact T2
      refine cm_M_called_274 (d := d + 2 * h + 12) (b4 := s) T2.2.2.1 g1 (V2.mv T2.1).1.1 (V3.mv T2.1).1.1 g5 g4 (fun q9 => absurd q9 cc) (fun _ e => skip (by have := l1.mp e; omega)) (fun _ _ e => skip (by have := l2.mp e; omega)) (fun _ _ _ => g3) (fun _ _ _ => by rw [g6]; exact vp_in_nI (by omega) (by omega)) (fun _ a1 a2 => ?_)
      have b1 : ¬ (i : Int) + 1 < y.2.1.toInt := fun r => a1 (l1.mpr r)
      have b2 : ¬ y.2.1.toInt + c.2.1.toInt ≤ (i : Int) + 1 := fun r => a2 (l2.mpr r)
      rw [ei, g7 i (by omega)]
      have tl := T2.2.2.2.2.2.2.2.1
      have ln : ((x.2.2.take (min i (min (y.2.1.toInt + c.2.1.toInt - 1) x.2.2.length).toNat)).drop (max y.2.1.toInt 1 - 1).toNat).length ≤ i := by
        rw [List.length_drop, List.length_take]
        omega
      refine go_eq (show d + 2 * h + 11 + 9 = d + 2 * h + 12 + 8 by omega) (mo_put (d := d + 2 * h + 11) E T2 nv nt (xc _ (gm9 _ i (by omega))) (fun e => by omega) (fun e σ3 T3 _ => gj_nextV (cm_M_called_328 (d := d + 2 * h + 12) T3.2.2.1 ?_)))
      rw [nI_1]
      refine ih (i + 1) σ3 (by omega) ?_
      rw [cut_in x.2.2 (by omega) (by omega) (by omega)]
      exact T3
  refine loop x.2.2.length 0 σ1 (Nat.zero_add _) ?_
  rw [Nat.zero_min, List.take_zero, List.drop_nil]
  exact T1
end MFn
