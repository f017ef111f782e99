/-! ===== the reference's texts: a value that is being written ===== -/
/-- the value v of the text t holds the characters cs so far; it was free to take at σ -/
def TS (z : State) (am : Nat → Nat) (σ : Hp) (w : Wd) (q : Po) (σ' : Hp) (w' : Wd) (q' : Po) (v t : Nat) (cs : List Int32) (kv : Nat) : Prop :=
  EvF am σ q σ' q' kv ∧ WE w w' ∧ CM z σ' am ∧ PoolOK z σ' am w' q' ∧ PV z σ' am v t ∧ σ'.I 70 v = 25 ∧ σ'.I 72 v = nI cs.length ∧ cs.length ≤ 40 ∧ (∀ i, i < cs.length → σ'.eI t i = cs.getD i 0) ∧ Fr σ' am q' v ∧ Fr σ' am q' t
theorem TS.vf {z : State} {am : Nat → Nat} {σ σ' : Hp} {w w' : Wd} {q q' : Po} {v t kv : Nat} {cs : List Int32} (h : TS z am σ w q σ' w' q' v t cs kv) : VF σ' am q' v (1, lN cs.length, cs) := by
  obtain ⟨h1, h2, h3, h4, ⟨a1, a2, a3, a4, a5, a6, a7⟩, h6, h7, h8, h9, h10, h11⟩ := h
  refine ⟨⟨a1, h6, fun e => absurd (show (1 : Int32) = 0 ∨ (1 : Int32) = 2 from e) (by decide), cs.length, h8, h7, t, a2, a3, a4, a5, fun _ => ⟨rfl, h9⟩⟩, h10, fun t' ht => ?_⟩
  obtain rfl : t = t' := Option.some.inj (a2.symm.trans ht)
  exact h11
theorem ch_nar {c : Int32} (h : ch_ok c) : vp_nar .byte c.toInt8.toInt32 = c := by
  obtain ⟨j, hj, rfl⟩ := nI_of (Int32.not_lt.mpr (Int32.le_trans (by decide) h.1))
  have h2 : nI j ≤ nI 126 := h.2
  have : j ≤ 126 := by
    rcases Nat.lt_or_ge 126 j with e | e
    · exact absurd h2 (nI_ge e (by omega))
    · exact e
  exact nar_b (by omega)
section MText
variable {z : State} {l : Launch} {d : Nat} {σ σ' : Hp} {am : Nat → Nat} {w w' : Wd} {R : Nat → Va} {q q' : Po} {Q : Outcome → Hp → Prop} {v t kv : Nat} {cs : List Int32}
/-- a new text -/
theorem mo_newt (h : EM z σ am w R q) (hk : q.k < 4000) (h1 : 1 ≤ kv) (kk : ∀ σ' w' q' v t, TS z am σ w q σ' w' q' v t [] kv → ¬ Fr σ am q v → ¬ Fr σ am q t → Q (.returned (some (.ref v))) (ov σ' am 7 w')) : Go z l mt_M_value_1 (d + 9) 0 [.ref (am 0), .int 25, .long 0, .retAddr 0, .retAddr 0, .retAddr 0] [] (ov σ am 7 w) Q :=
  mo_val h hk (fun σ' w' q' v t E F W N f1 f2 g1 g2 => kk σ' w' q' v t ⟨F.mono h1, W, E.1, E.2.2.2.1, N.1, N.2.1, N.2.2.2, Nat.zero_le _, fun i hi => absurd hi (Nat.not_lt_zero _), f1, f2⟩ g1 g2)
/-- one character more -/
theorem mo_put {c : Int32} (h : EM z σ am w R q) (hT : TS z am σ w q σ' w' q' v t cs kv) (nv : ¬ Fr σ am q v) (nt : ¬ Fr σ am q t) (hc : ch_ok c) (kE : 40 < cs.length + 1 → VE z am R σ w q 5 kv Q) (kk : cs.length + 1 ≤ 40 → ∀ σ2, TS z am σ w q σ2 w' q' v t (cs ++ [c]) kv → Q (.returned none) (ov σ2 am 7 w')) :
    Go z l mt_M_put (d + 9) 0 [.ref (am 0), .ref v, .int c] [] (ov σ' am 7 w') Q := by
  obtain ⟨h1, h2, h3, h4, ⟨a1, a2, a3, a4, a5, a6, a7⟩, h6, h7, h8, h9, h10, h11⟩ := id hT
  have E' : EM z σ' am w' R q' := h.mv h3 h4 h1 h2
  have c40 : (40 : Int32) ≤ σ'.I 72 v ↔ 40 ≤ cs.length := by
    rw [h7]
    constructor
    · intro e
      rcases Nat.lt_or_ge cs.length 40 with r | r
      · exact absurd (show nI 40 ≤ nI cs.length from e) (nI_ge r (by decide))
      · exact r
    · exact fun e => show nI 40 ≤ nI cs.length from nI_le e (by omega)
  have ec : (σ'.I 72 v).toNatClampNeg = cs.length := by rw [h7]; exact nI_clamp (by omega)
  refine cm_M_put (d := d) (b2 := t) h3 E'.2.1 a1 a4 a3 a7 a6 (fun e => kE (by have := c40.mp e; omega) σ' w' q' E' h1 h2) (fun _ => a2) (fun e => ?_) (fun e => ?_)
  · have : ¬ 40 ≤ cs.length := fun r => e (c40.mpr r)
    rw [h7, a5]
    exact vp_in_nI (by omega) (by omega)
  · have l40 : ¬ 40 ≤ cs.length := fun r => e (c40.mpr r)
    have vt : t ≠ v := fun e9 => by rw [e9, a1] at a3; exact absurd a3 (by decide)
    have sc : ∀ a, a ≠ v → a ≠ t → SameC σ' ((σ'.rowI t (va_up (σ'.eI t) ((σ'.I 72 v).toNatClampNeg) (vp_nar .byte c.toInt8.toInt32))).setI 72 v ((σ'.I 72 v) + 1)) a := fun a n1 n2 => (SameC.rowI n2).trans (SameC.setI n1)
    refine kk (by omega) _ ⟨⟨fun a ha => ⟨(h1.1 a ha).1, (h1.1 a ha).2.trans (sc a (fun e9 => nv (e9 ▸ ha)) (fun e9 => nt (e9 ▸ ha)))⟩, h1.2⟩, h2, ⟨h3.1, fun i hi => h3.2 i hi⟩, ?_, ⟨a1, a2, a3, a4, a5, a6, a7⟩, ?_, ?_, ?_, fun i hi => ?_, h10, h11⟩
    · obtain ⟨p1, p2, p3, p4, p5, p6, p7, p8, p9, p10, p11, p12, p13, p14⟩ := h4
      exact ⟨p1, p2, p3, p4, p5, p6, p7, p8, p9, p10, p11, p12, p13, p14⟩
    · exact (Hp.sI_nf _ _ _ _ (by decide)).trans h6
    · refine (Hp.sI _ _ _ _).trans ?_
      rw [h7, List.length_append, nI_1]
      rfl
    · rw [List.length_append]
      show cs.length + 1 ≤ 40
      omega
    · show (va_up σ'.eI t (va_up (σ'.eI t) ((σ'.I 72 v).toNatClampNeg) (vp_nar .byte c.toInt8.toInt32))) t i = _
      rw [hp_up_same, ec, ch_nar hc, getD_snoc]
      rw [List.length_append] at hi
      have hi' : i < cs.length + 1 := hi
      by_cases e9 : i = cs.length
      · rw [if_pos e9, e9, hp_up_same]
      · rw [if_neg e9, hp_up_ne _ _ e9]
        exact h9 i (by omega)
/-- what a value's text holds stays there -/
theorem TS.chr {a s : Nat} {x : Va} (hT : TS z am σ w q σ' w' q' v t cs kv) (hV : VF σ am q a x) (x1 : x.1 = 1) (hs : σ.A 73 a = some s) : σ'.tag a = 10 ∧ σ'.I 72 a = nI x.2.2.length ∧ σ'.A 73 a = some s ∧ σ'.tag s = 21 ∧ mx am s ∧ σ'.len s = 40 ∧ ∀ i, i < x.2.2.length → σ'.eI s i = x.2.2.getD i 0 := by
  have V' := hV.mv hT.1
  obtain ⟨b1, b2, b3, m, hm, b4, s', b5, b6, b7, b8, b9⟩ := V'.1
  have es : σ'.A 73 a = some s := ((hT.1.1 a hV.2.1).2.2.2.1 73).2.2.trans hs
  obtain rfl : s' = s := Option.some.inj (b5.symm.trans es)
  obtain ⟨ml, mc⟩ := b9 x1
  subst ml
  exact ⟨b1, b4, b5, b6, b7, b8, mc⟩
/-- two texts joined -/
theorem mo_cat {a b : Nat} {x y : Va} (h : EM z σ am w R q) (hk : q.k < 4000) (hA : VF σ am q a x) (hB : VF σ am q b y) (hx : x.1 = 3 ∨ x.1 = 1) (hy : y.1 = 3 ∨ y.1 = 1) (ox : v_ok x) (oy : v_ok y) (h1 : 1 ≤ kv)
    (kE : ¬ (if x.1 = 3 ∨ y.1 = 3 then (0, v_null) else sp_st 27 x y v_null).1 = 0 → VE z am R σ w q (if x.1 = 3 ∨ y.1 = 3 then (0, v_null) else sp_st 27 x y v_null).1 kv Q)
    (kO : (if x.1 = 3 ∨ y.1 = 3 then (0, v_null) else sp_st 27 x y v_null).1 = 0 → VR z am R σ w q (if x.1 = 3 ∨ y.1 = 3 then (0, v_null) else sp_st 27 x y v_null).2 kv Q) :
    Go z l mt_M_worked (d + 11) 0 [.ref (am 0), .int 5, .ref a, .ref b, .retAddr 0, .retAddr 0] [] (ov σ am 7 w) Q := by
  have ta : σ.I 70 a = 0 ↔ x.1 = 3 := by rw [hA.1.2.1]; exact mty_0 ox.k4
  have tb : σ.I 70 b = 0 ↔ y.1 = 3 := by rw [hB.1.2.1]; exact mty_0 oy.k4
  have nul : (x.1 = 3 ∨ y.1 = 3) → Go z l mt_M_value_1 (d + 10) 0 [.ref (am 0), .int 0, .long 0, .retAddr 0, .retAddr 0, .retAddr 0] [] (ov σ am 7 w) (fun o' σ1 => hp_Le (ov σ am 7 w) σ1 → gj_next z l mt_M_worked (d + 11) 17 [.ref (am 0), .int 5, .ref a, .ref b, .retAddr 0, .retAddr 0] [] Q o' σ1) := fun e => by
    rw [if_pos e] at kO
    exact mo_null (d := d + 1) h hk h1 (fun σ' w' q' v E F W V _ => gj_nextI (cm_M_worked_20 (d := d + 2) E.1 (kO rfl σ' w' q' v E F W V)))
  have c0 : ¬ (5 : Int32) = 0 := by decide
  have c1 : ¬ (5 : Int32) = 1 := by decide
  have c2 : ¬ (5 : Int32) = 2 := by decide
  have c3 : ¬ (5 : Int32) = 3 := by decide
  have c4 : ¬ (5 : Int32) = 4 := by decide
  refine cm_M_worked (d := d + 2) h.1 h.2.1 hA.1.1 hB.1.1 (fun e => nul (Or.inl (ta.mp e))) (fun e1 e2 _ => ?_) (fun _ _ e => absurd e c0) (fun _ _ e => absurd e c1) (fun _ _ e => absurd e c2) (fun _ _ e => absurd e c2) (fun _ _ e => absurd e c2) (fun _ _ e => absurd e c2) (fun _ _ e => absurd e c3) (fun _ _ e => absurd e c3) (fun _ _ e => absurd e c3) (fun _ _ e => absurd e c3) (fun _ _ e => absurd e c3) (fun _ _ e => absurd e c4) (fun _ _ e => absurd e c4) (fun _ _ e => absurd e c4) (fun _ _ e => absurd e c4) (fun _ _ e => absurd e c4) (fun _ e => nul (Or.inr (tb.mp e)))
  have x3 : ¬ x.1 = 3 := fun e => e1 (ta.mpr e)
  have y3 : ¬ y.1 = 3 := fun e => e2 (tb.mpr e)
  have x1 := hx.resolve_left x3
  have y1 := hy.resolve_left y3
  have st : sp_st 27 x y v_null = if 40 < x.2.2.length + y.2.2.length then (5, x) else (0, (1, lN (x.2.2 ++ y.2.2).length, x.2.2 ++ y.2.2)) := rfl
  rw [if_neg (fun e => e.elim x3 y3), st] at kE kO
  obtain ⟨-, xc⟩ := ox.text x1
  obtain ⟨-, yc⟩ := oy.text y1
  have xl := ox.len
  have yl := oy.len
  have kE5 : 40 < x.2.2.length + y.2.2.length → VE z am R σ w q 5 kv Q := fun e => by
    rw [if_pos e] at kE
    exact kE (show ¬ (5 : Int32) = 0 by decide)
  obtain ⟨s, hs⟩ : ∃ s, σ.A 73 a = some s := by
    obtain ⟨-, -, -, m, -, -, s, hs, -⟩ := hA.1
    exact ⟨s, hs⟩
  obtain ⟨r, hr⟩ : ∃ r, σ.A 73 b = some r := by
    obtain ⟨-, -, -, m, -, -, s, hs, -⟩ := hB.1
    exact ⟨s, hs⟩
  have mem : ∀ (xs : List Int32) (i : Nat), i < xs.length → xs.getD i 0 ∈ xs := fun xs i hi => by
    rw [show xs.getD i 0 = xs[i]'hi by simp [List.getD, hi]]
    exact List.getElem_mem _
  refine mo_newt (d := d + 1) h hk h1 (fun σ1 w1 q1 v t T1 nv nt _ => gj_nextI (cm_M_worked_196 (d := d + 2) T1.2.2.1 ?_))
  -- the second text
  have loop2 : ∀ (n i : Nat) (σ2 : Hp), i + n = y.2.2.length → TS z am σ w q σ2 w1 q1 v t (x.2.2 ++ y.2.2.take i) kv → Go z l mt_M_worked (d + 11) 232 [.ref (am 0), .int 5, .ref a, .ref b, .ref v, .int (nI i)] [] (ov σ2 am 7 w1) Q := by
    intro n
    induction n with
    | zero =>
      intro i σ2 hi T2
      obtain ⟨g1, g2, g3, g4, g5, g6, g7⟩ := T2.chr hB y1 hr
      have cc : σ2.I 72 b ≤ nI i := by rw [g2]; exact nI_le (by omega) (by omega)
      rw [List.take_of_length_le (by omega)] at T2
      have tl := T2.2.2.2.2.2.2.2.1
      rw [List.length_append] at tl
      rw [if_neg (by omega)] at kO
      exact cm_M_worked_232 (d := d + 2) (b2 := r) T2.2.2.1 g1 g5 g4 (fun _ => kO rfl σ2 w1 q1 v (h.mv T2.2.2.1 T2.2.2.2.1 T2.1 T2.2.1) T2.1 T2.2.1 T2.vf) (fun q9 => absurd cc q9) (fun q9 => absurd cc q9) (fun q9 => absurd cc q9)
    | succ n ih =>
      intro i σ2 hi T2
      obtain ⟨g1, g2, g3, g4, g5, g6, g7⟩ := T2.chr hB y1 hr
      have cc : ¬ σ2.I 72 b ≤ nI i := by rw [g2]; exact nI_ge (by omega) (by omega)
      have ei : (nI i).toNatClampNeg = i := nI_clamp (by omega)
      have ln : (x.2.2 ++ y.2.2.take i).length = x.2.2.length + i := by rw [List.length_append, List.length_take]; omega
      refine cm_M_worked_232 (d := d + 2) (b2 := r) T2.2.2.1 g1 g5 g4 (fun q9 => absurd q9 cc) (fun _ => g3) (fun _ => by rw [g6]; exact vp_in_nI (by omega) (by omega)) (fun _ => ?_)
      rw [ei, g7 i (by omega)]
      refine mo_put (d := d + 1) h T2 nv nt (yc _ (mem _ i (by omega))) (fun e σ3 w3 q3 E3 F3 W3 _ => gj_nextT (go_out (fun _ h => nomatch h) (kE5 (by rw [ln] at e; omega) σ3 w3 q3 E3 F3 W3))) (fun e σ3 T3 _ => gj_nextV (cm_M_worked_254 (d := d + 2) T3.2.2.1 ?_))
      rw [nI_1]
      refine ih (i + 1) σ3 (by omega) ?_
      rw [List.append_assoc] at T3
      have e9 : y.2.2.take (i + 1) = y.2.2.take i ++ [y.2.2.getD i 0] := by
        rw [List.take_add_one]
        congr 1
        simp [List.getD, show i < y.2.2.length by omega]
      rw [e9]
      exact T3
  have loop1 : ∀ (n i : Nat) (σ2 : Hp), i + n = x.2.2.length → TS z am σ w q σ2 w1 q1 v t (x.2.2.take i) kv → Go z l mt_M_worked (d + 11) 201 [.ref (am 0), .int 5, .ref a, .ref b, .ref v, .int (nI i)] [] (ov σ2 am 7 w1) Q := by
    intro n
    induction n with
    | zero =>
      intro i σ2 hi T2
      obtain ⟨g1, g2, g3, g4, g5, g6, g7⟩ := T2.chr hA x1 hs
      have cc : σ2.I 72 a ≤ nI i := by rw [g2]; exact nI_le (by omega) (by omega)
      rw [List.take_of_length_le (by omega)] at T2
      refine cm_M_worked_201 (d := d + 2) (b2 := s) T2.2.2.1 g1 g5 g4 (fun _ => loop2 y.2.2.length 0 σ2 (Nat.zero_add _) ?_) (fun q9 => absurd cc q9) (fun q9 => absurd cc q9) (fun q9 => absurd cc q9)
      rw [List.take_zero, List.append_nil]
      exact T2
    | succ n ih =>
      intro i σ2 hi T2
      obtain ⟨g1, g2, g3, g4, g5, g6, g7⟩ := T2.chr hA x1 hs
      have cc : ¬ σ2.I 72 a ≤ nI i := by rw [g2]; exact nI_ge (by omega) (by omega)
      have ei : (nI i).toNatClampNeg = i := nI_clamp (by omega)
      have ln : (x.2.2.take i).length = i := by rw [List.length_take]; omega
      refine cm_M_worked_201 (d := d + 2) (b2 := s) T2.2.2.1 g1 g5 g4 (fun q9 => absurd q9 cc) (fun _ => g3) (fun _ => by rw [g6]; exact vp_in_nI (by omega) (by omega)) (fun _ => ?_)
      rw [ei, g7 i (by omega)]
      refine mo_put (d := d + 1) h T2 nv nt (xc _ (mem _ i (by omega))) (fun e => by rw [ln] at e; omega) (fun e σ3 T3 _ => gj_nextV (cm_M_worked_223 (d := d + 2) T3.2.2.1 ?_))
      rw [nI_1]
      refine ih (i + 1) σ3 (by omega) ?_
      have e9 : x.2.2.take (i + 1) = x.2.2.take i ++ [x.2.2.getD i 0] := by
        rw [List.take_add_one]
        congr 1
        simp [List.getD, show i < x.2.2.length by omega]
      rw [e9]
      exact T3
  refine loop1 x.2.2.length 0 σ1 (Nat.zero_add _) ?_
  rw [List.take_zero]
  exact T1
end MText
