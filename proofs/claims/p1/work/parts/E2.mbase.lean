/-! ===== the reference's values: truths, numbers, comparisons ===== -/
/-- the value x comes out -/
def VR (z : State) (am : Nat → Nat) (R : Nat → Va) (σ : Hp) (w : Wd) (q : Po) (x : Va) (kv : Nat) (Q : Outcome → Hp → Prop) : Prop := ∀ σ' w' q' v, EM z σ' am w' R q' → EvF am σ q σ' q' kv → WE w w' → VF σ' am q' v x → Q (.returned (some (.ref v))) (ov σ' am 7 w')
/-- the error e comes out -/
def VE (z : State) (am : Nat → Nat) (R : Nat → Va) (σ : Hp) (w : Wd) (q : Po) (e : Int32) (kv : Nat) (Q : Outcome → Hp → Prop) : Prop := ∀ σ' w' q', EM z σ' am w' R q' → EvF am σ q σ' q' kv → WE w w' → Q (.threw (am 1)) (ov σ' am 7 (w'.setI 1 79 e))
theorem VR.mv {z : State} {am : Nat → Nat} {R : Nat → Va} {σ σ1 : Hp} {w w1 : Wd} {q q1 : Po} {x : Va} {kv a b : Nat} {Q : Outcome → Hp → Prop} (h : VR z am R σ w q x kv Q) (f : EvF am σ q σ1 q1 a) (e : WE w w1) (hk : a + b ≤ kv) : VR z am R σ1 w1 q1 x b Q := fun σ' w' q' v E F W V => h σ' w' q' v E (f.trans F hk) (e.trans W) V
theorem VE.mv {z : State} {am : Nat → Nat} {R : Nat → Va} {σ σ1 : Hp} {w w1 : Wd} {q q1 : Po} {x : Int32} {kv a b : Nat} {Q : Outcome → Hp → Prop} (h : VE z am R σ w q x kv Q) (f : EvF am σ q σ1 q1 a) (e : WE w w1) (hk : a + b ≤ kv) : VE z am R σ1 w1 q1 x b Q := fun σ' w' q' E F W => h σ' w' q' E (f.trans F hk) (e.trans W)
theorem v_ok.k4 {x : Va} (h : v_ok x) : k4 x.1 := by
  rcases h with h | h | h | h
  · exact Or.inl h.1
  · exact Or.inr (Or.inl h.1)
  · exact Or.inr (Or.inr (Or.inl h.1))
  · rw [h]; exact Or.inr (Or.inr (Or.inr rfl))
theorem NV.vf {z : State} {σ : Hp} {am : Nat → Nat} {q : Po} {v t : Nat} {ty : Int32} {n : Int64} {x : Va} (h : NV z σ am v t ty n) (f1 : Fr σ am q v) (f2 : Fr σ am q t) (e1 : ty = mty x.1) (e2 : x.1 = 0 ∨ x.1 = 2 → n = x.2.1) (e3 : x.1 = 1 → x.2.2 = []) : VF σ am q v x := by
  obtain ⟨⟨a1, a2, a3, a4, a5, a6, a7⟩, b1, b2, b3⟩ := h
  refine ⟨⟨a1, b1.trans e1, fun e => b2.trans (e2 e), 0, Nat.zero_le _, b3, t, a2, a3, a4, a5, fun e => ⟨by rw [e3 e]; rfl, fun i hi => absurd hi (Nat.not_lt_zero _)⟩⟩, f1, fun t' ht => ?_⟩
  obtain rfl : t = t' := Option.some.inj (a2.symm.trans ht)
  exact f2
section MBase
variable {z : State} {l : Launch} {d : Nat} {σ : Hp} {am : Nat → Nat} {w : Wd} {R : Nat → Va} {q : Po} {Q : Outcome → Hp → Prop}
theorem mo_value {ty : Int32} {n : Int64} {x : Va} {kv : Nat} (h : EM z σ am w R q) (hk : q.k < 4000) (e1 : ty = mty x.1) (e2 : x.1 = 0 ∨ x.1 = 2 → n = x.2.1) (e3 : x.1 = 1 → x.2.2 = []) (h1 : 1 ≤ kv) (kk : VR z am R σ w q x kv Q) : Go z l mt_M_value_1 (d + 9) 0 [.ref (am 0), .int ty, .long n, .retAddr 0, .retAddr 0, .retAddr 0] [] (ov σ am 7 w) Q :=
  mo_val h hk (fun σ' w' q' v t E F W N f1 f2 _ _ => kk σ' w' q' v E (F.mono h1) W (N.vf f1 f2 e1 e2 e3))
theorem mo_null {kv : Nat} (h : EM z σ am w R q) (hk : q.k < 4000) (h1 : 1 ≤ kv) (kk : VR z am R σ w q v_null kv Q) : Go z l mt_M_value_1 (d + 9) 0 [.ref (am 0), .int 0, .long 0, .retAddr 0, .retAddr 0, .retAddr 0] [] (ov σ am 7 w) Q :=
  mo_value h hk rfl (fun e => absurd e (by decide)) (fun e => absurd e (by decide)) h1 kk
theorem mo_truth {b : Int32} {kv : Nat} {p : Bool} (h : EM z σ am w R q) (hk : q.k < 4000) (hb : b = b2i p) (h1 : 1 ≤ kv) (kk : VR z am R σ w q (v_bool p) kv Q) : Go z l mt_M_truth (d + 10) 0 [.ref (am 0), .int b] [] (ov σ am 7 w) Q := by
  subst hb
  cases p with
  | false => exact cm_M_truth (d := d + 1) h.1 (fun _ => mo_value (d := d) (x := v_bool false) h hk rfl (fun _ => rfl) (fun e => absurd e (by decide)) h1 (fun σ' w' q' v E F W V _ => gj_nextI (cm_M_truth_15 (d := d + 1) E.1 (kk σ' w' q' v E F W V)))) (fun q9 => absurd rfl q9)
  | true => exact cm_M_truth (d := d + 1) h.1 (fun q9 => absurd (show (1 : Int32) = 0 from q9) (by decide)) (fun _ => mo_value (d := d) (x := v_bool true) h hk rfl (fun _ => rfl) (fun e => absurd e (by decide)) h1 (fun σ' w' q' v E F W V _ => gj_nextI (cm_M_truth_15 (d := d + 1) E.1 (kk σ' w' q' v E F W V))))
theorem fin_iff (n : Int64) : (n < -9007199254740991 ∨ 9007199254740991 < n) ↔ (0 < lg_cmp n 9007199254740991 ∨ lg_cmp n (-9007199254740991) < 0) := by
  rw [lgc_gt0, lgc_lt0, Int64.lt_iff_toInt_lt, Int64.lt_iff_toInt_lt]
  exact Or.comm
theorem mo_number {n : Int64} {kv : Nat} (h : EM z σ am w R q) (hk : q.k < 4000) (h1 : 1 ≤ kv) (kE : sp_fin (0, n) = 4 → VE z am R σ w q 4 kv Q) (kk : sp_fin (0, n) = 0 → VR z am R σ w q (0, n, []) kv Q) : Go z l mt_M_number (d + 10) 0 [.ref (am 0), .long n, .retAddr 0] [] (ov σ am 7 w) Q := by
  have ef : sp_fin (0, n) = if n < -9007199254740991 ∨ 9007199254740991 < n then 4 else 0 := by
    unfold sp_fin
    rw [if_neg (fun q9 => q9 rfl)]
  refine cm_M_number (d := d + 1) h.1 h.2.1 (fun q9 => ?_) (fun _ q9 => ?_) (fun n1 n2 => ?_)
  · exact kE (by rw [ef, if_pos ((fin_iff n).mpr (Or.inl q9))]) σ w q h ((EvF.rfl' am σ q).mono (Nat.zero_le _)) (WE.rfl' w)
  · exact kE (by rw [ef, if_pos ((fin_iff n).mpr (Or.inr q9))]) σ w q h ((EvF.rfl' am σ q).mono (Nat.zero_le _)) (WE.rfl' w)
  · have e0 := kk (by rw [ef, if_neg (fun q9 => ((fin_iff n).mp q9).elim n1 n2)])
    exact mo_value (d := d) (x := (0, n, [])) h hk rfl (fun _ => rfl) (fun e => absurd (show (0 : Int32) = 1 from e) (by decide)) h1 (fun σ' w' q' v E F W V _ => gj_nextI (cm_M_number_33 (d := d + 1) E.1 (e0 σ' w' q' v E F W V)))
theorem jl_cmp {x y : Int64} {H : Hp} (k : Q (.returned (some (.int (lg_cmp x y)))) H) : Go z l mt_JLong_compare (d + 9) 0 [.long x, .retAddr 0, .long y, .retAddr 0] [] H Q := by
  have e : lg_cmp x y = if x > y then 1 else if x = y then 0 else -1 := rfl
  rw [e] at k
  refine js_JLong_compare (fun h1 h2 => ?_) (fun h1 h2 => ?_) (fun h1 => ?_)
  · have h3 := (lg_cmp_ge x y).mp h1
    have h4 : ¬ x = y := fun q => h2 ((lg_cmp_eq x y).mpr q)
    rw [if_pos (Int64.lt_of_le_of_ne h3 (fun q => h4 q.symm))] at k
    exact k
  · have h4 := (lg_cmp_eq x y).mp h2
    subst h4
    rw [if_neg Int64.lt_irrefl, if_pos rfl] at k
    exact k
  · have h3 : ¬ y ≤ x := fun q => h1 ((lg_cmp_ge x y).mpr q)
    rw [if_neg (fun q => h3 (Int64.le_of_lt q)), if_neg (fun q => h3 (by rw [q]; exact Int64.le_refl _))] at k
    exact k
theorem tc_end {x y : List Int32} {k : Nat} (hx : k ≤ x.length) (hy : k ≤ y.length) (h : x.length ≤ k ∨ y.length ≤ k) : sp_tc (x.drop k) (y.drop k) = if y.length ≤ x.length then (if x.length = y.length then 0 else 1) else -1 := by
  rcases Nat.lt_or_ge k x.length with a | a
  · have hy' : y.length = k := by omega
    rw [if_pos (by omega), if_neg (by omega), drop_at (x := 0) a, List.drop_of_length_le (l := y) (by omega)]
    rfl
  · rcases Nat.lt_or_ge k y.length with b | b
    · rw [if_neg (by omega), drop_at (x := 0) b, List.drop_of_length_le (l := x) (by omega)]
      rfl
    · rw [if_pos (by omega), if_pos (by omega), List.drop_of_length_le (by omega), List.drop_of_length_le (by omega)]
      rfl
theorem mo_compare {a b : Nat} {x y : Va} (hc : CM z σ am) (hA : VM σ am a x) (hB : VM σ am b y) (hx : k4 x.1) (hk : x.1 = y.1) (h3 : ¬ x.1 = 3) (k : Q (.returned (some (.int (sp_cmp x y)))) (ov σ am 7 w)) : Go z l mt_M_compare (d + 10) 0 [.ref a, .ref b, .retAddr 0] [] (ov σ am 7 w) Q := by
  obtain ⟨a1, a2, a3, m, am', a4, s, a5, a6, a7, a8, a9⟩ := hA
  obtain ⟨b1, b2, b3, r, br', b4, t, b5, b6, b7, b8, b9⟩ := hB
  have k25 : mty x.1 = 25 ↔ x.1 = 1 := by rcases hx with e | e | e | e <;> rw [e] <;> decide
  by_cases x1 : x.1 = 1
  · obtain ⟨ml, mc⟩ := a9 x1
    obtain ⟨rl, rc⟩ := b9 (hk ▸ x1)
    have e9 : sp_cmp x y = sp_tc x.2.2 y.2.2 := if_pos x1
    rw [e9] at k
    have loop : ∀ (c i : Nat), i + c = min m r → (∀ j, j < i → x.2.2.getD j 0 = y.2.2.getD j 0) → Go z l mt_M_compare (d + 10) 23 [.ref a, .ref b, .int (nI i)] [] (ov σ am 7 w) Q := by
      have lei : ∀ u i, u ≤ 40 → i ≤ 40 → (nI u ≤ nI i ↔ u ≤ i) := fun u i hu hi => ⟨fun q9 => by
        rcases Nat.lt_or_ge i u with e | e
        · exact absurd q9 (nI_ge e (by omega))
        · exact e, fun q9 => nI_le q9 (by omega)⟩
      intro c
      induction c with
      | zero =>
        intro i hi hj
        have fin : Go z l mt_JInteger_compare (d + 9) 0 [.int (σ.I 72 a), .int (σ.I 72 b)] [] (ov σ am 7 w) (fun o σ1 => hp_Le (ov σ am 7 w) σ1 → gj_next z l mt_M_compare (d + 10) 89 [.ref a, .ref b, .int (nI i)] [] Q o σ1) := by
          rw [a4, b4]
          have te := tc_end (x := x.2.2) (y := y.2.2) (k := i) (by omega) (by omega) (by omega)
          rw [← sp_tc_drop (by omega) (by omega) hj, ← ml, ← rl] at te
          rw [te] at k
          refine js_JInteger_compare (d := d) (fun q1 q2 _ => gj_nextI (cm_M_compare_92 (d := d + 1) hc ?_)) (fun q1 q2 _ => gj_nextI (cm_M_compare_92 (d := d + 1) hc ?_)) (fun q1 _ => gj_nextI (cm_M_compare_92 (d := d + 1) hc ?_))
          · rw [if_pos ((lei r m (by omega) (by omega)).mp q1), if_neg (fun e => q2 (by rw [e]))] at k
            exact k
          · rw [if_pos ((lei r m (by omega) (by omega)).mp q1), if_pos ((nI_eq (by omega) (by omega)).mp q2)] at k
            exact k
          · rw [if_neg (fun e => q1 ((lei r m (by omega) (by omega)).mpr e))] at k
            exact k
        by_cases e1 : m ≤ i
        · have c1 : σ.I 72 a ≤ nI i := by rw [a4]; exact (lei _ _ (by omega) (by omega)).mpr e1
          exact cm_M_compare_23 (d := d + 1) (b3 := s) (b8 := t) hc a1 b1 a7 a6 b7 b6 (fun _ => fin) (fun q9 => absurd c1 q9) (fun q9 => absurd c1 q9) (fun q9 => absurd c1 q9) (fun q9 => absurd c1 q9) (fun q9 => absurd c1 q9) (fun q9 => absurd c1 q9) (fun q9 => absurd c1 q9) (fun q9 => absurd c1 q9)
        · have c1 : ¬ σ.I 72 a ≤ nI i := by rw [a4]; exact fun q9 => e1 ((lei _ _ (by omega) (by omega)).mp q9)
          have c2 : σ.I 72 b ≤ nI i := by rw [b4]; exact (lei _ _ (by omega) (by omega)).mpr (by omega)
          exact cm_M_compare_23 (d := d + 1) (b3 := s) (b8 := t) hc a1 b1 a7 a6 b7 b6 (fun q9 => absurd q9 c1) (fun _ _ => fin) (fun _ q9 => absurd c2 q9) (fun _ q9 => absurd c2 q9) (fun _ q9 => absurd c2 q9) (fun _ q9 => absurd c2 q9) (fun _ q9 => absurd c2 q9) (fun _ q9 => absurd c2 q9) (fun _ q9 => absurd c2 q9)
      | succ c ih =>
        intro i hi hj
        have c1 : ¬ σ.I 72 a ≤ nI i := by rw [a4]; exact fun q9 => by have := (lei _ _ (by omega) (by omega)).mp q9; omega
        have c2 : ¬ σ.I 72 b ≤ nI i := by rw [b4]; exact fun q9 => by have := (lei _ _ (by omega) (by omega)).mp q9; omega
        have ei : (nI i).toNatClampNeg = i := nI_clamp (by omega)
        have ea : σ.eI s (nI i).toNatClampNeg = x.2.2.getD i 0 := by rw [ei]; exact mc i (by omega)
        have eb : σ.eI t (nI i).toNatClampNeg = y.2.2.getD i 0 := by rw [ei]; exact rc i (by omega)
        refine cm_M_compare_23 (d := d + 1) (b3 := s) (b8 := t) hc a1 b1 a7 a6 b7 b6 (fun q9 => absurd q9 c1) (fun _ q9 => absurd q9 c2) (fun _ _ => a5) (fun _ _ => by rw [a8]; exact vp_in_nI (by omega) (by omega)) (fun _ _ => b5) (fun _ _ => by rw [b8]; exact vp_in_nI (by omega) (by omega)) (fun _ _ q9 => ?_) (fun _ _ q9 q8 => ?_) (fun _ _ q9 q8 => ?_)
        · rw [nI_1]
          rw [ea, eb] at q9
          refine ih (i + 1) (by omega) (fun j hj9 => ?_)
          rcases Nat.lt_or_ge j i with e | e
          · exact hj j e
          · obtain rfl : j = i := by omega
            exact q9
        · rw [ea, eb] at q9 q8
          rw [sp_tc_drop (k := i) (by omega) (by omega) hj, sp_tc_at (by omega) (by omega) q9, if_neg (Int32.not_lt.mpr q8)] at k
          exact k
        · rw [ea, eb] at q9 q8
          rw [sp_tc_drop (k := i) (by omega) (by omega) hj, sp_tc_at (by omega) (by omega) q9, if_pos (Int32.not_le.mp q8)] at k
          exact k
    exact cm_M_compare (d := d + 1) hc a1 b1 (fun _ => loop (min m r) 0 (Nat.zero_add _) (fun j hj => absurd hj (Nat.not_lt_zero _))) (fun q9 => absurd (a2.trans (k25.mpr x1)) q9)
  · have x02 : x.1 = 0 ∨ x.1 = 2 := by
      rcases hx with e | e | e | e
      · exact Or.inl e
      · exact absurd e x1
      · exact Or.inr e
      · exact absurd e h3
    have e9 : sp_cmp x y = lg_cmp x.2.1 y.2.1 := if_neg x1
    rw [e9] at k
    refine cm_M_compare (d := d + 1) hc a1 b1 (fun q9 => absurd (k25.mp (a2.symm.trans q9)) x1) (fun _ => ?_)
    rw [a3 x02, b3 (hk ▸ x02)]
    exact jl_cmp (d := d) (fun _ => gj_nextI (cm_M_compare_20 (d := d + 1) hc k))
theorem mo_told {a b kd : Nat} {x y : Va} {kv : Nat} (h : EM z σ am w R q) (hk : q.k < 4000) (hA : VM σ am a x) (hB : VM σ am b y) (hx : k4 x.1) (hy : k4 y.1) (hxy : ¬ x.1 = 3 → ¬ y.1 = 3 → x.1 = y.1) (hkd : kd < 6) (h1 : 1 ≤ kv) (kk : VR z am R σ w q (if x.1 = 3 ∨ y.1 = 3 then v_null else v_bool (sp_bool (20 + kd) x y)) kv Q) :
    Go z l mt_M_told (d + 11) 0 [.ref (am 0), .int (nI kd), .ref a, .ref b, .retAddr 0] [] (ov σ am 7 w) Q := by
  have ta : σ.I 70 a = 0 ↔ x.1 = 3 := by rw [hA.2.1]; exact mty_0 hx
  have tb : σ.I 70 b = 0 ↔ y.1 = 3 := by rw [hB.2.1]; exact mty_0 hy
  refine cm_M_told (d := d + 2) h.1 hA.1 hB.1 (fun e => ?_) (fun e1 e2 => ?_) (fun e1 e2 => ?_)
  · rw [if_pos (Or.inl (ta.mp e))] at kk
    exact mo_null (d := d + 1) h hk h1 (fun σ' w' q' v E F W V _ => gj_nextI (cm_M_told_20 (d := d + 2) E.1 (kk σ' w' q' v E F W V)))
  · have x3 : ¬ x.1 = 3 := fun q9 => e1 (ta.mpr q9)
    have y3 : ¬ y.1 = 3 := fun q9 => e2 (tb.mpr q9)
    rw [if_neg (fun q9 => q9.elim x3 y3)] at kk
    refine mo_compare (d := d) h.1 hA hB hx (hxy x3 y3) x3 (fun _ => gj_nextI ?_)
    have go : ∀ p : Bool, sp_bool (20 + kd) x y = p → Go z l mt_M_truth (d + 10) 0 [.ref (am 0), .int (b2i p)] [] (ov σ am 7 w) (fun o σ1 => hp_Le (ov σ am 7 w) σ1 → gj_next z l mt_M_told (d + 11) 128 [.ref (am 0), .int (nI kd), .ref a, .ref b, .int (sp_cmp x y)] [] Q o σ1) := fun p hp => by
      rw [hp] at kk
      exact mo_truth (d := d) h hk rfl h1 (fun σ' w' q' v E F W V _ => gj_nextI (cm_M_told_131 (d := d + 2) E.1 (kk σ' w' q' v E F W V)))
    have nk : ∀ j, j < 6 → (nI kd = nI j ↔ kd = j) := fun j hj => nI_eq (by omega) (by omega)
    have k0 : nI kd = 0 ↔ kd = 0 := nk 0 (by decide)
    have k1 : nI kd = 1 ↔ kd = 1 := nk 1 (by decide)
    have k2 : nI kd = 2 ↔ kd = 2 := nk 2 (by decide)
    have k3 : nI kd = 3 ↔ kd = 3 := nk 3 (by decide)
    have k4' : nI kd = 4 ↔ kd = 4 := nk 4 (by decide)
    have k5 : ¬ nI kd = 0 → ¬ nI kd = 1 → ¬ nI kd = 2 → ¬ nI kd = 3 → ¬ nI kd = 4 → kd = 5 := fun a0 a1 a2 a3 a4 => by
      have n0 : ¬ kd = 0 := fun e => a0 (k0.mpr e)
      have n1 : ¬ kd = 1 := fun e => a1 (k1.mpr e)
      have n2 : ¬ kd = 2 := fun e => a2 (k2.mpr e)
      have n3 : ¬ kd = 3 := fun e => a3 (k3.mpr e)
      have n4 : ¬ kd = 4 := fun e => a4 (k4'.mpr e)
      omega
    refine cm_M_told_26 (d := d + 2) h.1 (fun a0 a1 a2 a3 a4 c => go false ?_) (fun a0 a1 a2 a3 a4 c => go true ?_) (fun _ _ _ _ a4 c => go false ?_) (fun _ _ _ _ a4 c => go true ?_) (fun _ _ _ a3 c => go false ?_) (fun _ _ _ a3 c => go true ?_) (fun _ _ a2 c => go false ?_) (fun _ _ a2 c => go true ?_) (fun _ a1 c => go false ?_) (fun _ a1 c => go true ?_) (fun a0 c => go false ?_) (fun a0 c => go true ?_)
    · rw [k5 a0 a1 a2 a3 a4]; exact decide_eq_false (fun q9 => q9 c)
    · rw [k5 a0 a1 a2 a3 a4]; exact decide_eq_true c
    · rw [k4'.mp a4]; exact decide_eq_false (fun q9 => q9 c)
    · rw [k4'.mp a4]; exact decide_eq_true c
    · rw [k3.mp a3]; exact decide_eq_false (fun q9 => absurd c (Int32.not_lt.mpr q9))
    · rw [k3.mp a3]; exact decide_eq_true (Int32.not_lt.mp c)
    · rw [k2.mp a2]; exact decide_eq_false (fun q9 => absurd c (Int32.not_le.mpr q9))
    · rw [k2.mp a2]; exact decide_eq_true (Int32.not_le.mp c)
    · rw [k1.mp a1]; exact decide_eq_false (fun q9 => q9 c)
    · rw [k1.mp a1]; exact decide_eq_true c
    · rw [k0.mp a0]; exact decide_eq_false c
    · rw [k0.mp a0]; exact decide_eq_true c
  · rw [if_pos (Or.inr (tb.mp e2))] at kk
    exact mo_null (d := d + 1) h hk h1 (fun σ' w' q' v E F W V _ => gj_nextI (cm_M_told_20 (d := d + 2) E.1 (kk σ' w' q' v E F W V)))
end MBase
