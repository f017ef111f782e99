/-! ===== the reference's calls: value, text ===== -/
theorem pk_nil (n : Nat) : sp_pk (fun i => ([] : List Int32).getD (n + i) 0) 8 = 0 := by
  have e : (fun i => ([] : List Int32).getD (n + i) 0) = fun _ => 0 := by
    funext i
    simp
  rw [e]
  decide +kernel
theorem nar_ch {c : Int32} (h : ch_ok c) : vp_nar .byte c = c := by
  obtain ⟨j, h1, h2, rfl⟩ := ch_nI h
  exact (by decide +kernel : ∀ j, j < 127 → vp_nar .byte (nI j) = nI j) j (by omega)
section MApi3
variable {z : State} {l : Launch} {d : Nat} {σ : Hp} {am : Nat → Nat} {w : Wd} {a : Ab} {bc ou c s : Nat} {Q : Outcome → Hp → Prop}
theorem ma_value {x1 : Int32} (h : MI z σ am w a bc ou c s) (ha : a.ok) (k : MQr z am bc ou σ a c s (sp_value x1 a).1 Q (some (.long (sp_value x1 a).2))) : Go z l mt_M_value_0 (d + 9) 0 [.ref (am 0), .int x1, .retAddr 0, .retAddr 0, .retAddr 0] [] (ov σ am 7 w) Q := by
  have no : ¬ (0 ≤ x1 ∧ x1 ≤ 5) → Q (.returned (some (.long 0))) (ov σ am 7 (w.setI 0 62 1)) := fun e => by
    rw [show sp_value x1 a = (1, 0) from if_neg e] at k
    exact k.now (h.code 1) rfl rfl
  obtain ⟨hv, ht, HV, hHT, hv1, ht1, -, h59, -⟩ := h.up (i := 8) (by decide)
  have V : VM σ am hv a.hv := HV
  obtain ⟨g1, g2, g3⟩ := V.txt hHT
  have ok := ha.2.2.1
  have t0 : σ.I 70 hv = 0 ↔ a.hv.1 = 3 := by rw [V.2.1]; exact mty_0 ok.k4
  have t25 : σ.I 70 hv = 25 ↔ a.hv.1 = 1 := by rw [V.2.1]; exact mty_inj (b := 1) ok.k4 (by decide)
  have nil : ¬ a.hv.1 = 1 → a.hv.2.2 = [] := fun e => by
    rcases ok with o | o | o | o
    · exact o.2
    · exact absurd o.1 e
    · exact o.2.2
    · rw [o]
  have yes : ¬ x1 < 0 → ¬ 5 < x1 → sp_value x1 a = (0, if x1 = 0 then a.hv.2.1 else sp_pk (fun i => a.hv.2.2.getD (8 * x1.toNatClampNeg - 8 + i) 0) 8) := fun e1 e2 => if_pos ⟨i32_pos e1, Int32.not_lt.mp e2⟩
  have ret : ∀ v, ¬ x1 < 0 → ¬ 5 < x1 → (if x1 = 0 then a.hv.2.1 else sp_pk (fun i => a.hv.2.2.getD (8 * x1.toNatClampNeg - 8 + i) 0) 8) = v → Q (.returned (some (.long v))) (ov σ am 7 (w.setI 0 62 0)) := fun v e1 e2 ev => by
    rw [yes e1 e2, ev] at k
    exact k.now (h.code 0) rfl rfl
  have loop : ¬ x1 < 0 → ¬ 5 < x1 → ¬ x1 = 0 → a.hv.1 = 1 → Go z l mt_M_value_0 (d + 9) 98 [.ref (am 0), .int x1, .long 0, .retAddr 0, .int ((8 * x1) - 8)] [] (ov σ am 7 (w.setI 0 62 0)) Q := fun e1 e2 e3 e4 => by
    have r9 := ret _ e1 e2 rfl
    rw [if_neg e3] at r9
    obtain ⟨X, hX, rfl⟩ := nI_of e1
    have hX5 := (nI_leI hX (b := 5) (by omega)).mp (Int32.not_lt.mp e2)
    have hX0 : ¬ X = 0 := fun q => e3 (by rw [q]; rfl)
    have e8 : 8 * nI X = nI (8 * X) ∧ 8 * nI X - 8 = nI (8 * X - 8) := (by decide +kernel : ∀ X, X < 6 → 1 ≤ X → 8 * nI X = nI (8 * X) ∧ 8 * nI X - 8 = nI (8 * X - 8)) X (by omega) (by omega)
    rw [e8.2]
    rw [nI_clamp hX] at r9
    obtain ⟨t, tx⟩ := V.tx e4
    obtain rfl : ht = t := Option.some.inj (hHT.symm.trans tx.2.2.2.1)
    have lp : ∀ (m j : Nat), j + m = 8 → Go z l mt_M_value_0 (d + 9) 98 [.ref (am 0), .int (nI X), .long (sp_pk (fun i => a.hv.2.2.getD (8 * X - 8 + i) 0) j), .retAddr 0, .int (nI (8 * X - 8 + j))] [] (ov σ am 7 (w.setI 0 62 0)) Q := by
      intro m
      induction m with
      | zero =>
        intro j hj
        have cc : 8 * nI X ≤ nI (8 * X - 8 + j) := by rw [e8.1]; exact nI_le (by omega) (by omega)
        obtain rfl : j = 8 := by omega
        exact cm_M_value_0_98 (d := d) (b1 := hv) (b4 := ht) h.cm V.1 g2 g1 (fun _ => r9) (fun q => absurd cc q) (fun q => absurd cc q) (fun q => absurd cc q) (fun q => absurd cc q) (fun q => absurd cc q)
      | succ m ih =>
        intro j hj
        have cc : ¬ 8 * nI X ≤ nI (8 * X - 8 + j) := by rw [e8.1]; exact nI_ge (by omega) (by omega)
        have ec : (nI (8 * X - 8 + j)).toNatClampNeg = 8 * X - 8 + j := nI_clamp (by omega)
        have nx := ih (j + 1) (by omega)
        rw [show 8 * X - 8 + (j + 1) = 8 * X - 8 + j + 1 by omega] at nx
        have l9 : σ.I 72 hv ≤ nI (8 * X - 8 + j) ↔ a.hv.2.2.length ≤ 8 * X - 8 + j := by
          rw [tx.2.1]
          exact nI_leI (by have := tx.2.2.1; omega) (by omega)
        refine cm_M_value_0_98 (d := d) (b1 := hv) (b4 := ht) h.cm V.1 g2 g1 (fun q => absurd q cc) (fun _ => h59 rfl) (fun _ e => ?_) (fun _ _ => hHT) (fun _ _ => by rw [g3]; exact vp_in_nI (by omega) (by omega)) (fun _ e => ?_)
        · have z9 : a.hv.2.2.getD (8 * X - 8 + j) 0 = 0 := getD_out (l9.mp e)
          have e9 : sp_pk (fun i => a.hv.2.2.getD (8 * X - 8 + i) 0) (j + 1) = pk8 (sp_pk (fun i => a.hv.2.2.getD (8 * X - 8 + i) 0) j) 0 := by
            show pk8 _ (a.hv.2.2.getD (8 * X - 8 + j) 0) = _
            rw [z9]
          rw [e9] at nx
          rw [nI_1]
          exact nx
        · have lt9 : ¬ a.hv.2.2.length ≤ 8 * X - 8 + j := fun q => e (l9.mpr q)
          rw [nI_1, ec, tx.2.2.2.2.2.2.2 _ (by omega)]
          exact nx
    exact lp 8 0 rfl
  refine cm_M_value_0 (d := d) (b1 := hv) h.cm V.1 (fun e => no (fun q => absurd e (Int32.not_lt.mpr q.1))) (fun _ e => no (fun q => absurd e (Int32.not_lt.mpr q.2))) (fun _ _ => h59 rfl) (fun e1 e2 e3 => ret 0 e1 e2 ?_) (fun e1 e2 e3 e4 e5 => absurd (Int32.le_antisymm e4 (i32_pos e1)) e5) (fun e1 e2 e3 e4 e5 e6 => ret _ e1 e2 ?_) (fun e1 e2 e3 e4 e5 e6 => ret _ e1 e2 ?_) (fun e1 e2 e3 e4 e5 e6 => loop e1 e2 e6 (t25.mp e5)) (fun e1 e2 e3 e4 e5 e6 => absurd (by rw [e6]; decide) e4) (fun e1 e2 e3 e4 e5 e6 => absurd (by rw [e6]; decide) e4) (fun e1 e2 e3 e4 e5 => ret 0 e1 e2 ?_)
  · have h3 := t0.mp e3
    by_cases x0 : x1 = 0
    · rw [if_pos x0, v_nul ok h3]; rfl
    · rw [if_neg x0, nil (by rw [h3]; decide)]
      exact pk_nil _
  · rw [if_pos e5]
    refine (V.2.2.1 ?_).symm
    rcases ok with o | o | o | o
    · exact Or.inl o.1
    · exact absurd (t25.mpr o.1) e6
    · exact Or.inr o.1
    · exact absurd (t0.mpr (by rw [o])) e3
  · rw [if_pos e5]
    have h1 := t25.mp e6
    obtain ⟨t, tx⟩ := V.tx h1
    rw [tx.2.1, (ok.text h1).1]
    exact (lN_ofI (by have := tx.2.2.1; omega)).symm
  · have x0 : ¬ x1 = 0 := fun q => e4 (by rw [q]; decide)
    rw [if_neg x0, nil (fun q => e5 (t25.mpr q))]
    exact pk_nil _
theorem ma_text {x1 : Int32} (h : MI z σ am w a bc ou c s) (ha : a.ok) (k : MQr z am bc ou σ (sp_txt x1 a).2 c s (sp_txt x1 a).1 Q none) : Go z l mt_M_text (d + 9) 0 [.ref (am 0), .int x1, .retAddr 0, .retAddr 0, .retAddr 0] [] (ov σ am 7 w) Q := by
  obtain ⟨n1, n2, n3, n4, n5⟩ := h.num
  have hn9 := ha.1
  have h0 : MI z σ am (w.setI 0 55 0) (a.T, 0, a.2.2) bc ou c s := h.wd rfl rfl rfl rfl rfl rfl ⟨rfl, n2, n3, n4, n5⟩ (by show c + 20 * 0 ≤ _; omega) (by show s + 360 * 0 ≤ _; omega)
  have no : ¬ (0 ≤ x1 ∧ x1 ≤ 7 ∧ a.kn x1.toNatClampNeg = 1 ∧ a.n ≤ 40 ∧ sc_alb (rowT a.T 0 a.n) = true) → Q (.returned none) (ov σ am 7 ((w.setI 0 55 0).setI 0 62 1)) := fun e => by
    rw [show sp_txt x1 a = (1, (a.T, 0, a.2.2)) from if_neg e] at k
    exact k.now (h0.code 1) rfl rfl
  -- it does not fit
  have fls : ∀ (i : Int32), ¬ (0 ≤ x1 ∧ x1 ≤ 7 ∧ a.kn x1.toNatClampNeg = 1 ∧ a.n ≤ 40 ∧ sc_alb (rowT a.T 0 a.n) = true) → Go z l mt_M_text (d + 9) 43 [.ref (am 0), .int x1, .int (w.I 0 55), .int 0, .int i] [] (ov σ am 7 (w.setI 0 55 0)) Q := fun i e => by
    obtain ⟨v, t, V, hT, v1, t1, -, -, -⟩ := h.up (i := 0) (by decide)
    have r9 := no e
    have nn : ¬ ¬ (0 : Int32) = 0 := fun q => q rfl
    exact cm_M_text_43 (d := d) (b3 := v) (b9 := v) (b15 := v) (b21 := v) h.cm h.lk V.1 v1.2 V.1 v1.2 V.1 v1.2 V.1 v1.2 (fun _ _ => rfl) (fun _ _ q => absurd q nn) (fun _ _ q => absurd q nn) (fun _ _ q => absurd q nn) (fun _ _ _ => r9) (fun _ q => absurd q nn) (fun _ q => absurd q nn) (fun _ q => absurd q nn) (fun _ q => absurd q nn) (fun _ q => absurd q nn) (fun _ _ _ => rfl) (fun _ _ _ q => absurd q nn) (fun _ _ _ q => absurd q nn) (fun _ _ _ q => absurd q nn) (fun _ _ _ _ => r9) (fun _ _ q => absurd q nn) (fun _ _ q => absurd q nn) (fun _ _ q => absurd q nn) (fun _ _ q => absurd q nn) (fun _ _ q => absurd q nn) (fun _ q => absurd q nn) (fun _ q => absurd q nn) (fun _ q => absurd q nn) (fun _ q => absurd q nn)
  by_cases hb : ¬ x1 < 0 ∧ ¬ 8 ≤ x1
  · obtain ⟨j, hj, rfl⟩ := r9 hb.1 hb.2
    have hcj : (nI j).toNatClampNeg = j := nI_clamp (by omega)
    have in8 : vp_in (nI j) 8 := vp_in_nI hj (by omega)
    have hj7 : nI j ≤ 7 := show nI j ≤ nI 7 from nI_le (by omega) (by omega)
    have e4 : w.eI 4 (nI j).toNatClampNeg = mty (a.kn j) := by rw [hcj]; exact n3 j hj
    have t25 : mty (a.kn j) = 25 ↔ a.kn j = 1 := by rcases (ha.2.1 j hj).1 with e | e | e <;> rw [e] <;> decide
    refine cm_M_text (d := d) h.cm h.lk (fun e => absurd e hb.1) (fun _ e => absurd e hb.2) (fun _ _ => in8) (fun _ _ e => fls 0 (fun q => e (by rw [e4]; exact t25.mpr (by have := q.2.2.1; rw [hcj] at this; exact this)))) (fun _ _ _ e => fls 0 (fun q => ?_)) (fun _ _ e1 e2 => ?_)
    · rw [n1] at e
      exact absurd (show nI 40 < nI a.n from e) (nI_nlt q.2.2.2.1 (by omega))
    have k1 : a.kn j = 1 := t25.mp (by rw [← e4]; exact e1)
    have n40 : a.n ≤ 40 := by
      rcases Nat.lt_or_ge 40 a.n with r | r
      · exact absurd (show (40 : Int32) < w.I 0 55 by rw [n1]; exact nI_lt r (by omega)) e2
      · exact r
    obtain ⟨v, t, V, hT, v1, t1, e3, -, up⟩ := h.up (i := j) (by omega)
    obtain ⟨g1, g2, g3⟩ := V.txt hT
    have ea : w.eA 3 (nI j).toNatClampNeg = some v := by rw [hcj]; exact e3 hj
    have one : ¬ (1 : Int32) = 0 := by decide
    have chT : ∀ i, w.eI 2 i = a.T i := fun i => by rw [n2]
    -- the characters are copied
    have cpy : (∀ i, i < a.n → ch_ok (a.T i)) → ∀ (m i : Nat) (τ : Hp), i + m = a.n → CM z τ am → (∀ y, y ≠ v → y ≠ t → SameC σ τ y) → τ.nx = σ.nx → τ.sl = σ.sl → (∀ y, τ.tag y = σ.tag y ∧ τ.len y = σ.len y ∧ τ.A 73 y = σ.A 73 y) → τ.I 70 v = 25 → τ.I 72 v = nI a.n → (∀ i9, i9 < i → τ.eI t i9 = a.T i9) → Go z l mt_M_text (d + 9) 133 [.ref (am 0), .int (nI j), .int (nI a.n), .int 1, .int (nI i)] [] (ov τ am 7 ((w.setI 0 55 0).setI 0 62 0)) Q := by
      intro hch m
      have alb : sc_alb (rowT a.T 0 a.n) = true := alb_iff.mpr (fun c hc => by
        simp only [rowT, List.mem_map, List.mem_range, Nat.zero_add] at hc
        obtain ⟨i, hi, rfl⟩ := hc
        exact hch i hi)
      have es : sp_txt (nI j) a = (0, (a.T, 0, a.kn, va_up a.R j (1, lN a.n, rowT a.T 0 a.n), a.2.2.2.2)) := by
        have := show sp_txt (nI j) a = _ from if_pos ⟨i32_pos hb.1, hj7, by rw [hcj]; exact k1, n40, alb⟩
        rw [hcj] at this
        exact this
      rw [es] at k
      induction m with
      | zero =>
        intro i τ hi hc9 f f1 f2 tg i70 i72 d1
        have cc : nI a.n ≤ nI i := nI_le (by omega) (by omega)
        have ln : (rowT a.T 0 a.n).length = a.n := by rw [rowT, List.length_map, List.length_range]
        have V' : VM τ am v (1, lN a.n, rowT a.T 0 a.n) := by
          refine ⟨(tg v).1.trans V.1, i70, fun e => absurd (show (1 : Int32) = 0 ∨ (1 : Int32) = 2 from e) (by decide), a.n, n40, i72, t, (tg v).2.2.trans hT, (tg t).1.trans g1, g2, (tg t).2.1.trans g3, fun _ => ⟨ln.symm, fun i9 hi9 => ?_⟩⟩
          rw [d1 i9 (by omega)]
          show a.T i9 = (rowT a.T 0 a.n).getD i9 0
          simp [rowT, List.getD, hi9]
        refine cm_M_text_133 (d := d) (b2 := v) (b5 := t) hc9 h.lk ((tg v).1.trans V.1) g2 ((tg t).1.trans g1) t1.2 (fun _ => ?_) (fun q => absurd cc q) (fun q => absurd cc q) (fun q => absurd cc q) (fun q => absurd cc q) (fun q => absurd cc q) (fun q => absurd cc q)
        refine k τ _ (up τ _ _ _ c s hc9 f f1 f2 V' ((tg v).2.2.trans hT) rfl rfl rfl (fun r hr => ?_) ?_ rfl ⟨rfl, n2, n3, n4, n5⟩ (by show c + 20 * 0 ≤ _; omega) (by show s + 360 * 0 ≤ _; omega)) (fun x hx => f x (by omega) (by omega)) (by omega) rfl
        · show va_up a.R j _ r = _
          unfold va_up
          rfl
        · rw [if_neg (by omega)]; rfl
      | succ m ih =>
        intro i τ hi hc9 f f1 f2 tg i70 i72 d1
        have cc : ¬ nI a.n ≤ nI i := nI_ge (by omega) (by omega)
        have ei : (nI i).toNatClampNeg = i := nI_clamp (by omega)
        refine cm_M_text_133 (d := d) (b2 := v) (b5 := t) hc9 h.lk ((tg v).1.trans V.1) g2 ((tg t).1.trans g1) t1.2 (fun q => absurd q cc) (fun _ => in8) (fun _ => ea) (fun _ => (tg v).2.2.trans hT) (fun _ => vp_in_nI (by omega) (by omega)) (fun _ => by rw [(tg t).2.1, g3]; exact vp_in_nI (by omega) (by omega)) (fun _ => ?_)
        rw [ei, nI_1]
        refine ih (i + 1) _ (by omega) ⟨hc9.1, fun i hi => hc9.2 i hi⟩ (fun y h1 h2 => (f y h1 h2).trans (SameC.rowI h2)) f1 f2 tg i70 i72 (fun i9 hi9 => ?_)
        show va_up τ.eI t (va_up (τ.eI t) i (vp_nar .byte (w.eI 2 i))) t i9 = _
        rw [hp_up_same]
        by_cases e : i9 = i
        · rw [e, hp_up_same, chT]; exact nar_ch (hch i (by omega))
        · rw [hp_up_ne _ _ e]; exact d1 i9 (by omega)
    -- the characters are looked at
    have look : ∀ (m i : Nat), i + m = a.n → (∀ i9, i9 < i → ch_ok (a.T i9)) → Go z l mt_M_text (d + 9) 43 [.ref (am 0), .int (nI j), .int (nI a.n), .int 1, .int (nI i)] [] (ov σ am 7 (w.setI 0 55 0)) Q := by
      intro m
      induction m with
      | zero =>
        intro i hi hch
        have cc : nI a.n ≤ nI i := nI_le (by omega) (by omega)
        refine cm_M_text_43 (d := d) (b3 := v) (b9 := v) (b15 := v) (b21 := v) h.cm h.lk V.1 v1.2 V.1 v1.2 V.1 v1.2 V.1 v1.2 (fun _ q => absurd q one) (fun _ q => absurd q one) (fun _ q => absurd q one) (fun _ q => absurd q one) (fun _ q => absurd q one) (fun _ _ => rfl) (fun _ _ _ => in8) (fun _ _ _ => ea) (fun _ _ _ => ?_) (fun _ _ q => absurd q one) (fun q => absurd cc q) (fun q => absurd cc q) (fun q => absurd cc q) (fun q => absurd cc q) (fun q => absurd cc q) (fun q => absurd cc q) (fun q => absurd cc q) (fun q => absurd cc q) (fun q => absurd cc q) (fun q => absurd cc q) (fun q => absurd cc q) (fun q => absurd cc q) (fun q => absurd cc q) (fun q => absurd cc q)
        refine cpy (fun i9 hi9 => hch i9 (by omega)) a.n 0 _ (Nat.zero_add _) ⟨h.cm.1, fun i hi => h.cm.2 i hi⟩ (fun y h1 _ => ((SameC.setI h1).trans (SameC.setJ h1)).trans (SameC.setI h1)) rfl rfl (fun y => ⟨rfl, rfl, rfl⟩) ?_ (Hp.sI _ _ _ _) (fun i9 hi9 => absurd hi9 (Nat.not_lt_zero _))
        exact (Hp.sI_nf _ _ _ _ (by decide)).trans (show (σ.setI 70 v 25).I 70 v = 25 from Hp.sI _ _ _ _)
      | succ m ih =>
        intro i hi hch
        have cc : ¬ nI a.n ≤ nI i := nI_ge (by omega) (by omega)
        have ei : (nI i).toNatClampNeg = i := nI_clamp (by omega)
        have bad : ¬ ch_ok (a.T i) → Go z l mt_M_text (d + 9) 43 [.ref (am 0), .int (nI j), .int (nI a.n), .int 0, .int (nI i + 1)] [] (ov σ am 7 (w.setI 0 55 0)) Q := fun e => by
          have f9 := fls (nI i + 1) (fun q => e (alb_iff.mp q.2.2.2.2 _ (by
            simp only [rowT, List.mem_map, List.mem_range, Nat.zero_add]
            exact ⟨i, by omega, rfl⟩)))
          rw [n1] at f9
          exact f9
        refine cm_M_text_43 (d := d) (b3 := v) (b9 := v) (b15 := v) (b21 := v) h.cm h.lk V.1 v1.2 V.1 v1.2 V.1 v1.2 V.1 v1.2 (fun q => absurd q cc) (fun q => absurd q cc) (fun q => absurd q cc) (fun q => absurd q cc) (fun q => absurd q cc) (fun q => absurd q cc) (fun q => absurd q cc) (fun q => absurd q cc) (fun q => absurd q cc) (fun q => absurd q cc) (fun _ q => absurd q one) (fun _ q => absurd q one) (fun _ q => absurd q one) (fun _ q => absurd q one) (fun _ q => absurd q one) (fun _ q => absurd q one) (fun _ q => absurd q one) (fun _ q => absurd q one) (fun _ q => absurd q one) (fun _ q => absurd q one) (fun _ _ => vp_in_nI (by omega) (by omega)) (fun _ _ e => bad (fun q => ?_)) (fun _ _ _ e => bad (fun q => ?_)) (fun _ _ e5 e6 => ?_)
        · rw [ei] at e
          exact absurd (show a.T i < 32 by rw [← chT]; exact e) (Int32.not_lt.mpr q.1)
        · rw [ei] at e
          exact absurd (show 126 < a.T i by rw [← chT]; exact e) (Int32.not_lt.mpr q.2)
        · rw [ei] at e5 e6
          rw [nI_1]
          refine ih (i + 1) (by omega) (fun i9 hi9 => ?_)
          by_cases e : i9 = i
          · rw [e]
            exact ⟨Int32.not_lt.mp (fun q => e5 (show w.eI 2 i < 32 by rw [chT]; exact q)), Int32.not_lt.mp (fun q => e6 (show 126 < w.eI 2 i by rw [chT]; exact q))⟩
          · exact hch i9 (by omega)
    rw [n1]
    exact look a.n 0 (Nat.zero_add _) (fun i9 hi9 => absurd hi9 (Nat.not_lt_zero _))
  · have hb' := not_r9 hb
    have n9 := fls 0 (fun q => r9_no hb' ⟨q.1, q.2.1⟩)
    exact cm_M_text (d := d) h.cm h.lk (fun _ => n9) (fun _ _ => n9) (fun e1 e2 => absurd ⟨e1, e2⟩ hb) (fun e1 e2 => absurd ⟨e1, e2⟩ hb) (fun e1 e2 => absurd ⟨e1, e2⟩ hb) (fun e1 e2 => absurd ⟨e1, e2⟩ hb)
end MApi3
