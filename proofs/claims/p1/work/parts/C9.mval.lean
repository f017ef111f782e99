/-! ===== a value from the reference's pool ===== -/
/-- a new value of the type ty and the number n, its text t empty -/
def NV (z : State) (σ : Hp) (am : Nat → Nat) (v t : Nat) (ty : Int32) (n : Int64) : Prop := PV z σ am v t ∧ σ.I 70 v = ty ∧ σ.J 71 v = n ∧ σ.I 72 v = 0
/-- what a call of value leads to -/
def VK (z : State) (σ : Hp) (am : Nat → Nat) (w : Wd) (R : Nat → Va) (q : Po) (ty : Int32) (n : Int64) (Q : Outcome → Hp → Prop) : Prop := ∀ σ' w' q' v t, EM z σ' am w' R q' → EvF am σ q σ' q' 1 → WE w w' → NV z σ' am v t ty n → Fr σ' am q' v → Fr σ' am q' t → ¬ Fr σ am q v → ¬ Fr σ am q t → Q (.returned (some (.ref v))) (ov σ' am 7 w')
theorem VK.mv {z : State} {σ σ1 : Hp} {am : Nat → Nat} {w w1 : Wd} {R : Nat → Va} {q q1 : Po} {ty : Int32} {n : Int64} {Q : Outcome → Hp → Prop} (h : VK z σ am w R q ty n Q) (f : EvF am σ q σ1 q1 0) (e : WE w w1) : VK z σ1 am w1 R q1 ty n Q :=
  fun σ' w' q' v t E F W N f1 f2 g1 g2 => h σ' w' q' v t E (f.trans F (by omega)) (e.trans W) N f1 f2 (fun r => g1 (f.1 v r).1) (fun r => g2 (f.1 t r).1)
section MVal
variable {z : State} {l : Launch} {d : Nat} {σ : Hp} {am : Nat → Nat} {w : Wd} {R : Nat → Va} {q : Po} {Q : Outcome → Hp → Prop} {ty : Int32} {n : Int64}
/-- the value is there: it is taken -/
theorem mo_val87 (h : EM z σ am w R q) (hk : q.k < q.hw) (kk : VK z σ am w R q ty n Q) : Go z l mt_M_value_1 (d + 9) 87 [.ref (am 0), .int ty, .long n, .retAddr 0, .retAddr 0, .retAddr 0] [] (ov σ am 7 w) Q := by
  refine go_wf fun hwf => ?_
  obtain ⟨h1, h2, h3, h4, h5, h6⟩ := id h
  obtain ⟨p1, p2, p3, p4, p5, p6, p7, p8, p9, p10, p11, p12, p13, p14⟩ := id h4
  obtain ⟨e1, v1, v2, v3, v4, v5, v6, v7⟩ := p12 q.k hk
  have ek : (w.I 0 41).toNatClampNeg = q.k := by rw [p6]; exact nI_clamp (by omega)
  refine cm_M_value_1_87 (d := d) (b1 := q.pa) (b6 := q.pv q.k) h1 p3 p2 v1 v6 p1 (by rw [p6, p5]; exact vp_in_nI (by omega) (by omega)) (by rw [ek]; exact e1) ?_
  have lt : ∀ a, σ.tag a ≠ 0 → a < σ.nx := fun a ha => hwf.lt (show (ov σ am 7 w).tag a ≠ 0 from ha)
  have sc : ∀ a, a ≠ q.pv q.k → SameC σ (((σ.setI 70 (q.pv q.k) ty).setJ 71 (q.pv q.k) n).setI 72 (q.pv q.k) 0) a := fun a ha => ((SameC.setI ha).trans (SameC.setJ ha)).trans (SameC.setI ha)
  have tg : ∀ a, (((σ.setI 70 (q.pv q.k) ty).setJ 71 (q.pv q.k) n).setI 72 (q.pv q.k) 0).tag a = σ.tag a := fun _ => rfl
  have mv : mx am (q.pv q.k) := h1.out v1 rfl
  let q' : Po := (q.pa, q.P, q.hw, q.k + 1, q.pv, q.pt)
  have hE : EvF am σ q (((σ.setI 70 (q.pv q.k) ty).setJ 71 (q.pv q.k) n).setI 72 (q.pv q.k) 0) q' 1 := by
    refine ⟨fun a ha => ⟨⟨ha.1, ha.2.1, ha.2.2.1, fun i hi hj => ha.2.2.2 i (Nat.le_of_succ_le hi) hj⟩, sc a ((ha.2.2.2 q.k (Nat.le_refl _) hk).1)⟩, Nat.le_succ _, Nat.le_refl _, Nat.le_refl _, Nat.le_refl _, Nat.le_refl _, Nat.le_refl _, Nat.le_refl _, Or.inl rfl, fun i hi => Or.inl ⟨hi, rfl, rfl⟩⟩
  have hW : WE w (w.setI 0 41 (w.I 0 41 + 1)) := ⟨fun i f r => by show up22 w.I 0 41 _ i f = _; rw [up22_eq, if_neg r], rfl, fun _ _ _ => rfl, fun _ _ => rfl, rfl, rfl⟩
  have hP : PoolOK z (((σ.setI 70 (q.pv q.k) ty).setJ 71 (q.pv q.k) n).setI 72 (q.pv q.k) 0) am (w.setI 0 41 (w.I 0 41 + 1)) q' := by
    refine ⟨p1, p2, p3, p4, p5, ?_, hk, p8, p9, p10, p11, fun i hi => ⟨(p12 i hi).1, (p12 i hi).2⟩, p13, p14⟩
    show w.I 0 41 + 1 = nI (q.k + 1)
    rw [p6, nI_1]
  have npt : ∀ i, i < q.hw → q.pv q.k ≠ q.pt i := fun i hi e => by
    have := (p12 i hi).2.2.2.1
    rw [← e, v1] at this
    exact absurd this (by decide)
  have nvt : ∀ i, i < q.hw → q.pt q.k ≠ q.pv i := fun i hi e => by
    have := (p12 i hi).2.1
    rw [← e, v3] at this
    exact absurd this (by decide)
  refine kk _ _ q' (q.pv q.k) (q.pt q.k) (h.mv ⟨h1.1, fun i hi => h1.2 i hi⟩ hP hE hW) hE hW ⟨⟨v1, v2, v3, v4, v5, v6, v7⟩, ?_, ?_, ?_⟩ ⟨lt _ (by rw [v1]; decide), mv, fun e => ?_, fun i hi hj => ⟨fun e => ?_, npt i hj⟩⟩ ⟨lt _ (by rw [v3]; decide), v4, fun e => ?_, fun i hi hj => ⟨nvt i hj, fun e => ?_⟩⟩ (fun r => (r.2.2.2 q.k (Nat.le_refl _) hk).1 rfl) (fun r => (r.2.2.2 q.k (Nat.le_refl _) hk).2 rfl)
  · exact (Hp.sI_nf _ _ _ _ (by decide)).trans (show (σ.setI 70 (q.pv q.k) ty).I 70 (q.pv q.k) = ty from Hp.sI _ _ _ _)
  · exact Hp.sJ _ _ _ _
  · exact Hp.sI _ _ _ _
  · have e' : q.pv q.k = q.pa := e
    rw [← e', v1] at p2
    exact absurd p2 (by decide)
  · have := p14 q.k i hk hj (Or.inl e)
    have hi' : q.k + 1 ≤ i := hi
    omega
  · have e' : q.pt q.k = q.pa := e
    rw [← e', v3] at p2
    exact absurd p2 (by decide)
  · have := p14 q.k i hk hj (Or.inr e)
    have hi' : q.k + 1 ≤ i := hi
    omega
/-- the value is there, or it is made -/
theorem mo_val59 (h : EM z σ am w R q) (hk : q.k < q.P) (hk4 : q.k < 4000) (kk : VK z σ am w R q ty n Q) : Go z l mt_M_value_1 (d + 9) 59 [.ref (am 0), .int ty, .long n, .retAddr 0, .retAddr 0, .retAddr 0] [] (ov σ am 7 w) Q := by
  refine go_wf fun hwf => ?_
  obtain ⟨h1, h2, h3, h4, h5, h6⟩ := id h
  obtain ⟨p1, p2, p3, p4, p5, p6, p7, p8, p9, p10, p11, p12, p13, p14⟩ := id h4
  have ek : (w.I 0 41).toNatClampNeg = q.k := by rw [p6]; exact nI_clamp (by omega)
  have lt : ∀ a, σ.tag a ≠ 0 → a < σ.nx := fun a ha => hwf.lt (show (ov σ am 7 w).tag a ≠ 0 from ha)
  have pal : q.pa < σ.nx := lt _ (by rw [p2]; decide)
  have lt7 : ∀ i, i < 7 → am i < σ.nx := h1.lt hwf
  have mx0 : mx am σ.nx := h1.nxO hwf
  have mx1 : mx am (σ.nx + 1) := fun i hi e => by have := lt7 i hi; omega
  have ne01 : σ.nx ≠ σ.nx + 1 := by omega
  refine cm_M_value_1_59 (d := d) (b1 := q.pa) h1 p3 p2 p4 p1 (by rw [p6, p5]; exact vp_in_nI (by omega) (by omega)) (fun b6 e => ?_) (fun e => ?_) (fun e => ?_)
  · have hkh : q.k < q.hw := by
      rcases Nat.lt_or_ge q.k q.hw with r | r
      · exact r
      · rw [ek, p13 q.k r hk] at e
        cases e
    exact mo_val87 h hkh kk
  · have : (((σ.newO 10 4).newA 21 40).setA 73 σ.nx (some ((σ.newO 10 4).nx))).len q.pa = q.P := (hp_up_ne _ _ (show q.pa ≠ σ.nx + 1 by omega)).trans p5
    rw [this, p6]
    exact vp_in_nI (by omega) (by omega)
  · have hkh : q.k = q.hw := by
      rcases Nat.lt_or_ge q.k q.hw with r | r
      · rw [ek, (p12 q.k r).1] at e
        cases e
      · omega
    rw [ek]
    let q1 : Po := (q.pa, q.P, q.hw + 1, q.k, va_up q.pv q.hw σ.nx, va_up q.pt q.hw (σ.nx + 1))
    have sc : ∀ a, a < σ.nx → a ≠ q.pa → SameC σ ((((σ.newO 10 4).newA 21 40).setA 73 σ.nx (some ((σ.newO 10 4).nx))).rowA q.pa (va_up ((((σ.newO 10 4).newA 21 40).setA 73 σ.nx (some ((σ.newO 10 4).nx))).eA q.pa) q.k (some σ.nx))) a := fun a ha hn => (((SameC.newO ha).trans (SameC.newA (Nat.lt_succ_of_lt ha))).trans (SameC.setA (Nat.ne_of_lt ha))).trans (SameC.rowA hn)
    have hc1 : CM z ((((σ.newO 10 4).newA 21 40).setA 73 σ.nx (some ((σ.newO 10 4).nx))).rowA q.pa (va_up ((((σ.newO 10 4).newA 21 40).setA 73 σ.nx (some ((σ.newO 10 4).nx))).eA q.pa) q.k (some σ.nx))) am := ⟨h1.1, fun i hi => by
      have s9 := sc _ (lt7 i hi) (fun e => p3 i hi e.symm)
      exact ⟨s9.1.trans (h1.2 i hi).1, s9.2.1.trans (h1.2 i hi).2.1, (h1.2 i hi).2.2⟩⟩
    have hE : EvF am σ q ((((σ.newO 10 4).newA 21 40).setA 73 σ.nx (some ((σ.newO 10 4).nx))).rowA q.pa (va_up ((((σ.newO 10 4).newA 21 40).setA 73 σ.nx (some ((σ.newO 10 4).nx))).eA q.pa) q.k (some σ.nx))) q1 0 := by
      refine ⟨fun a ha => ⟨⟨Nat.lt_of_lt_of_le ha.1 (Nat.le_add_right _ 2), ha.2.1, ha.2.2.1, fun i hi hj => ?_⟩, sc a ha.1 ha.2.2.1⟩, Nat.le_refl _, Nat.le_refl _, ?_, ?_, Nat.le_succ _, Nat.le_refl _, Nat.le_add_right _ 2, Or.inl rfl, fun i hi => ?_⟩
      · have hj' : i < q.hw + 1 := hj
        by_cases ei : i = q.hw
        · have al := ha.1
          show a ≠ va_up q.pv q.hw σ.nx i ∧ a ≠ va_up q.pt q.hw (σ.nx + 1) i
          rw [ei, hp_up_same, hp_up_same]
          omega
        · show a ≠ va_up q.pv q.hw σ.nx i ∧ a ≠ va_up q.pt q.hw (σ.nx + 1) i
          rw [hp_up_ne _ _ ei, hp_up_ne _ _ ei]
          exact ha.2.2.2 i hi (by omega)
      · show σ.nx + 2 + 2 * q.hw + q.P ≤ σ.nx + 2 * (q.hw + 1) + q.P
        omega
      · show σ.sl + 44 + 44 * q.hw + 2 * q.P ≤ σ.sl + 44 * (q.hw + 1) + 2 * q.P
        omega
      · have hi' : i < q.hw + 1 := hi
        show (i < q.hw ∧ va_up q.pv q.hw σ.nx i = q.pv i ∧ va_up q.pt q.hw (σ.nx + 1) i = q.pt i) ∨ (σ.nx ≤ va_up q.pv q.hw σ.nx i ∧ σ.nx ≤ va_up q.pt q.hw (σ.nx + 1) i)
        by_cases ei : i = q.hw
        · rw [ei, hp_up_same, hp_up_same]
          exact Or.inr ⟨Nat.le_refl _, Nat.le_succ _⟩
        · exact Or.inl ⟨by omega, hp_up_ne _ _ ei, hp_up_ne _ _ ei⟩
    have old : ∀ i, i < q.hw → q.pv i < σ.nx ∧ q.pt i < σ.nx ∧ q.pv i ≠ q.pa ∧ q.pt i ≠ q.pa := fun i hi => by
      obtain ⟨-, v1, v2, v3, -⟩ := p12 i hi
      refine ⟨lt _ (by rw [v1]; decide), lt _ (by rw [v3]; decide), fun e => ?_, fun e => ?_⟩
      · rw [e, p2] at v1; exact absurd v1 (by decide)
      · rw [e, p2] at v3; exact absurd v3 (by decide)
    have hP : PoolOK z ((((σ.newO 10 4).newA 21 40).setA 73 σ.nx (some ((σ.newO 10 4).nx))).rowA q.pa (va_up ((((σ.newO 10 4).newA 21 40).setA 73 σ.nx (some ((σ.newO 10 4).nx))).eA q.pa) q.k (some σ.nx))) am w q1 := by
      refine ⟨p1, ?_, p3, p4, ?_, p6, show q.k ≤ q.hw + 1 by omega, show q.hw + 1 ≤ q.P by omega, show q.hw + 1 ≤ 4000 by omega, p10, p11, fun i hi => ?_, fun i hi hj => ?_, fun i j hi hj e => ?_⟩
      · exact ((hp_up_ne _ _ (show q.pa ≠ σ.nx + 1 by omega)).trans (hp_up_ne _ _ (show q.pa ≠ σ.nx by omega))).trans p2
      · exact (hp_up_ne _ _ (show q.pa ≠ σ.nx + 1 by omega)).trans p5
      · have hi' : i < q.hw + 1 := hi
        by_cases ei : i = q.hw
        · subst ei
          refine ⟨?_, ?_⟩
          · show va_up σ.eA q.pa (va_up (σ.eA q.pa) q.k (some σ.nx)) q.pa q.hw = some (va_up q.pv q.hw σ.nx q.hw)
            rw [hp_up_same, hp_up_same, hkh, hp_up_same]
          · show PV z _ am (va_up q.pv q.hw σ.nx q.hw) (va_up q.pt q.hw (σ.nx + 1) q.hw)
            rw [hp_up_same, hp_up_same]
            exact ⟨(hp_up_ne _ _ ne01).trans (hp_up_same _ _ _), show (((σ.newO 10 4).newA 21 40).setA 73 σ.nx (some ((σ.newO 10 4).nx))).A 73 σ.nx = some (σ.nx + 1) from Hp.sA _ _ _ _, hp_up_same _ _ _, mx1, hp_up_same _ _ _, h6, by omega⟩
        · have hi9 : i < q.hw := by omega
          obtain ⟨o1, o2, o3, o4⟩ := old i hi9
          obtain ⟨e1, v1, v2, v3, v4, v5, v6, v7⟩ := p12 i hi9
          have s1 := sc _ o1 o3
          have s2 := sc _ o2 o4
          refine ⟨?_, ?_⟩
          · show va_up σ.eA q.pa (va_up (σ.eA q.pa) q.k (some σ.nx)) q.pa i = some (va_up q.pv q.hw σ.nx i)
            rw [hp_up_same, hp_up_ne _ _ ei, hkh, hp_up_ne _ _ ei]
            exact e1
          · show PV z _ am (va_up q.pv q.hw σ.nx i) (va_up q.pt q.hw (σ.nx + 1) i)
            rw [hp_up_ne _ _ ei, hp_up_ne _ _ ei]
            exact ⟨s1.1.trans v1, (s1.2.2.1 73).2.2.trans v2, s2.1.trans v3, v4, s2.2.1.trans v5, v6, v7⟩
      · have hi' : q.hw + 1 ≤ i := hi
        show va_up σ.eA q.pa (va_up (σ.eA q.pa) q.k (some σ.nx)) q.pa i = none
        rw [hp_up_same, hp_up_ne _ _ (by omega)]
        exact p13 i (by omega) hj
      · have hi' : i < q.hw + 1 := hi
        have hj' : j < q.hw + 1 := hj
        have e' : va_up q.pv q.hw σ.nx i = va_up q.pv q.hw σ.nx j ∨ va_up q.pt q.hw (σ.nx + 1) i = va_up q.pt q.hw (σ.nx + 1) j := e
        by_cases ei : i = q.hw
        · by_cases ej : j = q.hw
          · omega
          · exfalso
            rw [ei, hp_up_same, hp_up_same, hp_up_ne _ _ ej, hp_up_ne _ _ ej] at e'
            have := old j (by omega)
            omega
        · by_cases ej : j = q.hw
          · exfalso
            rw [ej, hp_up_same, hp_up_same, hp_up_ne _ _ ei, hp_up_ne _ _ ei] at e'
            have := old i (by omega)
            omega
          · rw [hp_up_ne _ _ ei, hp_up_ne _ _ ei, hp_up_ne _ _ ej, hp_up_ne _ _ ej] at e'
            exact p14 i j (by omega) (by omega) e'
    exact mo_val87 (q := q1) (h.mv hc1 hP hE (WE.rfl' w)) (show q.k < q.hw + 1 by omega) (kk.mv hE (WE.rfl' w))
theorem fgt6 {M : Mt} {d pc : Nat} {a b c e u v : Value} {st : List Value} {H : Hp} (k : Go z l M d pc [a, b, c, e, .retAddr 0, .retAddr 0] st H Q) : Go z l M d pc [a, b, c, e, u, v] st H Q :=
  go_fgt (ls2 := [a, b, c, e, .retAddr 0, .retAddr 0]) rfl (fun j x hv hne => by
    match j, hv with
    | 0, hv => exact hv
    | 1, hv => exact hv
    | 2, hv => exact hv
    | 3, hv => exact hv
    | 4, hv => exact absurd (Option.some.inj hv).symm hne
    | 5, hv => exact absurd (Option.some.inj hv).symm hne
    | _ + 6, hv => cases hv) k
/-- a value from the pool -/
theorem mo_val (h : EM z σ am w R q) (hk4 : q.k < 4000) (kk : VK z σ am w R q ty n Q) : Go z l mt_M_value_1 (d + 9) 0 [.ref (am 0), .int ty, .long n, .retAddr 0, .retAddr 0, .retAddr 0] [] (ov σ am 7 w) Q := by
  refine go_wf fun hwf => ?_
  obtain ⟨h1, h2, h3, h4, h5, h6⟩ := id h
  obtain ⟨p1, p2, p3, p4, p5, p6, p7, p8, p9, p10, p11, p12, p13, p14⟩ := id h4
  have ek : (w.I 0 41).toNatClampNeg = q.k := by rw [p6]; exact nI_clamp (by omega)
  have lt : ∀ a, σ.tag a ≠ 0 → a < σ.nx := fun a ha => hwf.lt (show (ov σ am 7 w).tag a ≠ 0 from ha)
  have pal : q.pa < σ.nx := lt _ (by rw [p2]; decide)
  have lt7 : ∀ i, i < 7 → am i < σ.nx := h1.lt hwf
  have mx0 : mx am σ.nx := h1.nxO hwf
  have cap9 : w.I 0 41 = nI (σ.len q.pa) ↔ q.k = q.P := by
    rw [p6, p5]
    exact nI_eq (by omega) (by omega)
  by_cases full : q.k = q.P
  · have old : ∀ i, i < q.hw → q.pv i < σ.nx ∧ q.pt i < σ.nx ∧ q.pv i ≠ q.pa ∧ q.pt i ≠ q.pa := fun i hi => by
      obtain ⟨-, v1, v2, v3, -⟩ := p12 i hi
      refine ⟨lt _ (by rw [v1]; decide), lt _ (by rw [v3]; decide), fun e => ?_, fun e => ?_⟩
      · rw [e, p2] at v1; exact absurd v1 (by decide)
      · rw [e, p2] at v3; exact absurd v3 (by decide)
    have loop : ∀ (m i : Nat) (τ : Hp), i + m = q.k → CM z τ am → (∀ a, a < σ.nx → SameC σ τ a) → τ.tag σ.nx = 27 → τ.len σ.nx = 2 * q.P → τ.nx = σ.nx + 1 → τ.sl = σ.sl + 2 * q.P → (∀ j, j < i → τ.eA σ.nx j = some (q.pv j)) → (∀ j, i ≤ j → τ.eA σ.nx j = none) → Go z l mt_M_value_1 (d + 9) 26 [.ref (am 0), .int ty, .long n, .retAddr 0, .ref σ.nx, .int (nI i)] [] (ov τ am 7 w) Q := by
      intro m
      induction m with
      | zero =>
        intro i τ hi hc fr t1 t2 t3 t4 te tn
        have cc : w.I 0 41 ≤ nI i := by rw [p6]; exact nI_le (by omega) (by omega)
        have x9 : τ.tag (q.pv 0) = 10 := ((fr _ (old 0 (by omega)).1).1).trans (p12 0 (by omega)).2.1
        refine cm_M_value_1_26 (d := d) (b1 := q.pa) (b6 := q.pv 0) hc p3 ((fr _ pal).1.trans p2) mx0 t1 h6 x9 (fun _ => fgt6 ?_) (fun q9 => absurd cc q9) (fun q9 => absurd cc q9) (fun q9 => absurd cc q9) (fun q9 => absurd cc q9) (fun q9 => absurd cc q9)
        let q1 : Po := (σ.nx, 2 * q.P, q.hw, q.k, q.pv, q.pt)
        have hE : EvF am σ q τ q1 0 := by
          refine ⟨fun a ha => ⟨⟨by have := ha.1; omega, ha.2.1, by have := ha.1; show a ≠ σ.nx; omega, ha.2.2.2⟩, fr a ha.1⟩, Nat.le_refl _, Nat.le_refl _, ?_, ?_, Nat.le_refl _, show q.P ≤ 2 * q.P by omega, by omega, Or.inr (Nat.le_refl _), fun i hi => Or.inl ⟨hi, rfl, rfl⟩⟩
          · show τ.nx + 2 * q.hw + q.P ≤ σ.nx + 2 * q.hw + 2 * q.P
            omega
          · show τ.sl + 44 * q.hw + 2 * q.P ≤ σ.sl + 44 * q.hw + 2 * (2 * q.P)
            omega
        have hW : WE w (w.setA 0 40 (some σ.nx)) := ⟨fun _ _ _ => rfl, rfl, fun i f r => by show up22 w.A 0 40 _ i f = _; rw [up22_eq, if_neg r], fun _ _ => rfl, rfl, rfl⟩
        have hP : PoolOK z τ am (w.setA 0 40 (some σ.nx)) q1 := by
          refine ⟨rfl, t1, mx0, h6, t2, p6, p7, show q.hw ≤ 2 * q.P by omega, p9, show 2 * q.P ≤ 8000 by omega, show 1 ≤ 2 * q.P by omega, fun i9 hi9 => ?_, fun i9 hi9 hj9 => tn i9 (by have : q.hw ≤ i9 := hi9; omega), p14⟩
          have hi8 : i9 < q.hw := hi9
          obtain ⟨o1, o2, o3, o4⟩ := old i9 hi8
          obtain ⟨e1, v1, v2, v3, v4, v5, v6, v7⟩ := p12 i9 hi8
          have s1 := fr _ o1
          have s2 := fr _ o2
          exact ⟨te i9 (by omega), s1.1.trans v1, (s1.2.2.1 73).2.2.trans v2, s2.1.trans v3, v4, s2.2.1.trans v5, v6, v7⟩
        exact mo_val59 (q := q1) (h.mv hc hP hE hW) (show q.k < 2 * q.P by omega) hk4 (kk.mv hE hW)
      | succ m ih =>
        intro i τ hi hc fr t1 t2 t3 t4 te tn
        have cc : ¬ w.I 0 41 ≤ nI i := by rw [p6]; exact nI_ge (by omega) (by omega)
        have ei : (nI i).toNatClampNeg = i := nI_clamp (by omega)
        have sp := fr _ pal
        have x9 : τ.tag (q.pv i) = 10 := ((fr _ (old i (by omega)).1).1).trans (p12 i (by omega)).2.1
        refine cm_M_value_1_26 (d := d) (b1 := q.pa) (b6 := q.pv i) hc p3 (sp.1.trans p2) mx0 t1 h6 x9 (fun q9 => absurd q9 cc) (fun _ => p1) (fun _ => by rw [sp.2.1, p5]; exact vp_in_nI (by omega) (by omega)) (fun _ => by rw [sp.2.2.2.2.2, ei]; exact (p12 i (by omega)).1) (fun _ => by rw [t2]; exact vp_in_nI (by omega) (by omega)) (fun _ => ?_)
        rw [nI_1, ei]
        refine ih (i + 1) _ (by omega) ⟨hc.1, fun j hj => hc.2 j hj⟩ (fun a ha => (fr a ha).trans (SameC.rowA (Nat.ne_of_lt ha))) t1 t2 t3 t4 (fun j hj => ?_) (fun j hj => ?_)
        · show (va_up τ.eA σ.nx (va_up (τ.eA σ.nx) i (some (q.pv i)))) σ.nx j = _
          rw [hp_up_same]
          by_cases e : j = i
          · rw [e, hp_up_same]
          · rw [hp_up_ne _ _ e]
            exact te j (by omega)
        · show (va_up τ.eA σ.nx (va_up (τ.eA σ.nx) i (some (q.pv i)))) σ.nx j = _
          rw [hp_up_same, hp_up_ne _ _ (by omega)]
          exact tn j (by omega)
    have e2 : (2 * w.I 0 41) = nI (2 * q.P) := by
      rw [p6, full]
      exact (Int32.ofNat_mul 2 q.P).symm
    have e3 : (2 * w.I 0 41).toNatClampNeg = 2 * q.P := by rw [e2]; exact nI_clamp (by omega)
    refine cm_M_value_1 (d := d) (b1 := q.pa) h1 p2 p1 (fun q9 => absurd (cap9.mpr full) q9) (fun _ => by rw [e2]; exact nI_pos (by omega)) (fun _ => by rw [e3]; omega) (fun _ => ?_)
    rw [e3]
    refine loop q.k 0 _ (Nat.zero_add _) (h1.wA hwf 27 (2 * q.P)) (fun a ha => SameC.newA ha) (hp_up_same _ _ _) (hp_up_same _ _ _) rfl rfl (fun j hj => absurd hj (Nat.not_lt_zero _)) (fun j _ => ?_)
    have b9 := ((hwf.1 σ.nx (Nat.le_refl _)).2.2.2 j).2.2
    rw [nn_eA mx0] at b9
    exact b9
  · exact cm_M_value_1 (d := d) (b1 := q.pa) h1 p2 p1 (fun _ => mo_val59 h (by omega) hk4 kk) (fun q9 => absurd (cap9.mp q9) full) (fun q9 => absurd (cap9.mp q9) full) (fun q9 => absurd (cap9.mp q9) full)
end MVal
