/-! ===== the worker's run; soundness of the types ===== -/
theorem cl_run {z : State} {l : Launch} {d : Nat} {σ : Hp} {ad : Nat → Nat} {Q : Outcome → Hp → Prop} {op sg : Nat → Nat} {aO aS mO mS : Nat} {ko : Nat → Nat} {w : Wd} {len : Nat} {S : Nat → Va} {kn : Nat → Int32} {m : Ex} {c1 : Nat} {ko0 : Nat → Nat} {ar0 : Nat → Int64} {ch0 : Nat → Int32} (r : RepW m 0 len 0 c1 ko0 ar0 ch0)
    (hp : KP z σ ad op sg aO aS mO mS ko w len) (hj : ∀ j, j < len → ko j = ko0 j ∧ w.eJ 10 j = ar0 j) (hc : ∀ j, j < c1 → w.eI 11 j = ch0 j) (hS : SLS w S) (ht : 8 + m.2.2 ≤ 250) (hr : rg_ok kn S) (hk : (m.1 kn).1 = 0)
    (ok : (m.2.1 (rg S)).1 = 0 → ∀ w' S', KF w w' → SLS w' S' → (∀ s, s ≤ 8 → S' s = S s) → S' 9 = (m.2.1 (rg S)).2 → Q (.returned (some (.int 0))) (ov σ ad 21 w'))
    (er : ¬ (m.2.1 (rg S)).1 = 0 → ∀ w' S', KF w w' → SLS w' S' → (∀ s, s ≤ 8 → S' s = S s) → Q (.returned (some (.int (m.2.1 (rg S)).1))) (ov σ ad 21 w')) :
    Go z l mt_K_run (d + 20) 0 [.ref (ad 20), .ref (ad 8), .retAddr 0, .retAddr 0, .retAddr 0, .retAddr 0] [] (ov σ ad 21 w) Q := by
  have f1 : KF w ((w.setI 20 37 8).setI 20 38 0) := (kf_t w 8).trans (kf_e _ 0)
  refine cs_K_run (d := d + 11) hp.1 ?_
  have hp1 := hp.kf f1
  refine r z l d σ ad Q op sg aO aS mO mS ko _ len S 8 kn hp1 (Nat.le_refl _) (fun j _ a2 => hj j a2) (fun j _ a2 => hc j a2) ⟨hS, rfl, rfl⟩ (Nat.le_refl _) ht hr hk (fun e1 w' S' f' hS' lo hi => ?_) (fun e1 w' S' t' f' hS' lo => er e1 w' S' (f1.trans f') hS'.1 lo)
  have hp2 := hp1.kf f'
  refine kh_end hp2.1 hp2.2.1 hp2.2.2.1 hp2.2.2.2.1 hp2.2.2.2.2.1 hp2.2.2.2.2.2 (Nat.le_refl _) hp.2.2.2.2.2 ?_
  rw [hS'.2.2]
  exact ok e1 w' S' (f1.trans f') hS'.1 lo hi
theorem ty_null (k : Int32) : ty_ok k v_null := ⟨v_ok_null, fun h => absurd h (by decide), Or.inl rfl⟩
theorem ty_bool (b : Bool) : ty_ok 2 (v_bool b) := ⟨v_ok_b b, fun h => absurd h (by cases b <;> decide), Or.inr rfl⟩
theorem ty_b2 {y : Int64} (h : y = 0 ∨ y = 1) : ty_ok 2 (2, y, []) := ⟨v_ok_bool h, fun h => absurd (show (2 : Int32) = 0 from h) (by decide), Or.inr rfl⟩
theorem ty_text {c : List Int32} (h : c.length ≤ 40) (hc : ∀ x ∈ c, ch_ok x) : ty_ok 1 (1, lN c.length, c) := ⟨v_ok_text h hc, fun h => absurd (show (1 : Int32) = 0 from h) (by decide), Or.inr rfl⟩
theorem ty_int {y : Int64} (h1 : -9007199254740991 ≤ y.toInt) (h2 : y.toInt ≤ 9007199254740991) : ty_ok 0 (0, y, []) := ⟨Or.inl ⟨rfl, rfl⟩, fun _ => ⟨h1, h2⟩, Or.inr rfl⟩
theorem ty_fin {x : Int32 × Int64} (h : sp_fin x = 0) : ty_ok 0 (0, x.2, []) := by
  unfold sp_fin at h
  by_cases h1 : ¬ x.1 = 0
  · rw [if_pos h1] at h; exact absurd h h1
  · rw [if_neg h1] at h
    by_cases h2 : x.2 < -9007199254740991 ∨ 9007199254740991 < x.2
    · rw [if_pos h2] at h; exact absurd h (by decide)
    · have e1 : (-9007199254740991 : Int64).toInt = -9007199254740991 := by decide
      have e2 : (9007199254740991 : Int64).toInt = 9007199254740991 := by decide
      have a1 : ¬ x.2.toInt < -9007199254740991 := fun q => h2 (Or.inl (Int64.lt_iff_toInt_lt.mpr (by rw [e1]; exact q)))
      have a2 : ¬ 9007199254740991 < x.2.toInt := fun q => h2 (Or.inr (Int64.lt_iff_toInt_lt.mpr (by rw [e2]; exact q)))
      exact ty_int (by omega) (by omega)
theorem kc_res {o : Nat} {ks : List Int32} {k : Int32} (h : sp_kc o ks = (0, k)) (ho : ¬ op_result.getD o 0 = 4) : k = op_result.getD o 0 := by
  unfold sp_kc at h
  rw [if_neg ho] at h
  by_cases ht : sp_takes o ks.length = true
  · rw [if_pos ht] at h
    exact (congrArg Prod.snd h).symm
  · rw [if_neg ht] at h
    exact absurd (show (2 : Int32) = 0 from congrArg Prod.fst h) (by decide)
theorem es_int {n : Int64} (h1 : -9007199254740991 ≤ n.toInt) (h2 : n.toInt ≤ 9007199254740991) : EX_S (ex_int n) := fun kn R k hr hk he => by
  have : k = 0 := (congrArg Prod.snd hk).symm
  subst this
  exact ty_int h1 h2
theorem es_bool {n : Int64} (h : n = 0 ∨ n = 1) : EX_S (ex_bool n) := fun kn R k hr hk he => by
  have : k = 2 := (congrArg Prod.snd hk).symm
  subst this
  exact ty_b2 h
theorem es_null : EX_S ex_null := fun kn R k hr hk he => ty_null k
theorem es_text {c : List Int32} (h : c.length ≤ 40) (hc : ∀ x ∈ c, ch_ok x) : EX_S (ex_text c) := fun kn R k hr hk he => by
  have : k = 1 := (congrArg Prod.snd hk).symm
  subst this
  exact ty_text h hc
theorem es_reg {r : Nat} (h : r < 8) : EX_S (ex_reg r) := fun kn R k hr hk he => by
  have : k = kn r := (congrArg Prod.snd hk).symm
  subst this
  exact (hr r h).1
theorem sp_text_ty {o : Nat} (ho : o = 27 ∨ o = 37 ∨ o = 38 ∨ o = 39) {a b c : Va} (ha : v_ok a) (h1 : a.1 = 1) (hb : o = 27 → v_ok b ∧ b.1 = 1) (he : (sp_text o a b c).1 = 0) : ty_ok 1 (sp_text o a b c).2 := by
  obtain ⟨na, ca⟩ := ha.text h1
  have la := ha.len
  rcases ho with rfl | rfl | rfl | rfl
  · obtain ⟨vb, kb⟩ := hb rfl
    obtain ⟨nb, cb⟩ := vb.text kb
    by_cases h : 40 < a.2.2.length + b.2.2.length
    · rw [show sp_text 27 a b c = (5, a) from if_pos h] at he
      exact absurd (show (5 : Int32) = 0 from he) (by decide)
    · rw [show sp_text 27 a b c = (0, (1, lN (a.2.2 ++ b.2.2).length, a.2.2 ++ b.2.2)) from if_neg h]
      exact ty_text (by rw [List.length_append]; omega) (fun x hx => (List.mem_append.mp hx).elim (ca x) (cb x))
  · refine ty_text (by rw [List.length_map]; exact la) (fun x hx => ?_)
    obtain ⟨y, hy, rfl⟩ := List.mem_map.mp hx
    exact (ch_let (ca y hy)).1
  · refine ty_text (by rw [List.length_map]; exact la) (fun x hx => ?_)
    obtain ⟨y, hy, rfl⟩ := List.mem_map.mp hx
    exact (ch_let (ca y hy)).1
  · by_cases h : c.2.1 < 0
    · rw [show sp_text 39 a b c = (6, a) from if_pos h] at he
      exact absurd (show (6 : Int32) = 0 from he) (by decide)
    · rw [show sp_text 39 a b c = (0, (1, lN (sp_cut a.2.2 b.2.1.toInt c.2.1.toInt).length, sp_cut a.2.2 b.2.1.toInt c.2.1.toInt)) from if_neg h]
      refine ty_text (by rw [sp_cut_len]; omega) (fun x hx => ca x (List.mem_of_mem_take (List.mem_of_mem_drop hx)))
theorem es_2 {o : Nat} {m1 m2 : Ex} (s1 : EX_S m1) (s2 : EX_S m2) (ho : (op_result.getD o 0 = 2 ∨ op_result.getD o 0 = 0) ∨ o = 27) : EX_S (ex_2 o m1 m2) := fun kn R k hr hk he => by
  obtain ⟨k1, k2, k3⟩ := ck2_ok (o := o) (m1 := m1) (m2 := m2) (kn := kn) (congrArg Prod.fst hk)
  have hk' : sp_kc o [(m1.1 kn).2, (m2.1 kn).2] = (0, k) := k3.symm.trans hk
  have hn4 : ¬ op_result.getD o 0 = 4 := by
    rcases ho with (h | h) | rfl
    · rw [h]; decide
    · rw [h]; decide
    · decide
  have hkr := kc_res hk' hn4
  have hev : (ex_2 o m1 m2).2.1 R = ev2 o m1 m2 R := rfl
  rw [hev] at he ⊢
  unfold ev2 at he ⊢
  by_cases e1 : (m1.2.1 R).1 = 0
  · rw [if_neg (fun q => q e1)] at he ⊢
    by_cases e2 : (m2.2.1 R).1 = 0
    · rw [if_neg (fun q => q e2)] at he ⊢
      by_cases hn : (m1.2.1 R).2.1 = 3 ∨ (m2.2.1 R).2.1 = 3
      · rw [if_pos hn]; exact ty_null k
      · rw [if_neg hn] at he ⊢
        have t1 := s1 kn R _ hr (pr0 k1) e1
        have t2 := s2 kn R _ hr (pr0 k2) e2
        unfold sp_st at he ⊢
        rcases ho with (h | h) | rfl
        · rw [if_pos h, hkr, h]; exact ty_bool _
        · rw [if_neg (by rw [h]; decide), if_neg (by rw [h]; decide)] at he ⊢
          rw [hkr, h]
          exact ty_fin he
        · rw [if_neg (by decide), if_pos (by decide)] at he ⊢
          obtain ⟨g1, g2⟩ := kc_two (o := 27) (x := 1) (by decide) (by decide) (by rw [hk'])
          rw [hkr, show op_result.getD 27 0 = 1 by decide]
          exact sp_text_ty (Or.inl rfl) t1.1 (ty_fit t1 (fun q => hn (Or.inl q)) g1 (by decide) (by decide)) (fun _ => ⟨t2.1, ty_fit t2 (fun q => hn (Or.inr q)) g2 (by decide) (by decide)⟩) he
    · rw [if_pos e2] at he; exact absurd he e2
  · rw [if_pos e1] at he; exact absurd he e1
theorem es_1 {o : Nat} {m : Ex} (s : EX_S m) (ho : (op_result.getD o 0 = 2 ∨ op_result.getD o 0 = 0) ∨ o = 37 ∨ o = 38) : EX_S (ex_1 o m) := fun kn R k hr hk he => by
  obtain ⟨k1, k3⟩ := ck1_ok (o := o) (m := m) (kn := kn) (congrArg Prod.fst hk)
  have hk' : sp_kc o [(m.1 kn).2] = (0, k) := k3.symm.trans hk
  have hn4 : ¬ op_result.getD o 0 = 4 := by
    rcases ho with (h | h) | rfl | rfl
    · rw [h]; decide
    · rw [h]; decide
    · decide
    · decide
  have hkr := kc_res hk' hn4
  have hev : (ex_1 o m).2.1 R = ev1 o m R := rfl
  rw [hev] at he ⊢
  unfold ev1 at he ⊢
  by_cases e1 : (m.2.1 R).1 = 0
  · rw [if_neg (fun q => q e1)] at he ⊢
    by_cases hn : (m.2.1 R).2.1 = 3
    · rw [if_pos hn]; exact ty_null k
    · rw [if_neg hn] at he ⊢
      have t1 := s kn R _ hr (pr0 k1) e1
      unfold sp_st at he ⊢
      rcases ho with (h | h) | ho
      · rw [if_pos h, hkr, h]; exact ty_bool _
      · rw [if_neg (by rw [h]; decide), if_neg (by rw [h]; decide)] at he ⊢
        rw [hkr, h]
        exact ty_fin he
      · have hr1 : op_result.getD o 0 = 1 := by rcases ho with rfl | rfl <;> decide
        rw [if_neg (by rw [hr1]; decide), if_pos hr1] at he ⊢
        have g1 := kc_one (o := o) (x := 1) (by omega) (by rcases ho with rfl | rfl <;> decide) (by rw [hk'])
        rw [hkr, hr1]
        exact sp_text_ty (by omega) t1.1 (ty_fit t1 hn g1 (by decide) (by decide)) (fun q => by omega) he
  · rw [if_pos e1] at he; exact absurd he e1
