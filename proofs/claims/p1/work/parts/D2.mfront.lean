/-! ===== the reference's rules: signs in front. Printed by wip/tools/genD2.py ===== -/
theorem it_1 (o : Nat) : ∀ (n : Nat) (m : Ex), ex_it o n (ex_1 o m) = ex_1 o (ex_it o n m)
  | 0, _ => rfl
  | n + 1, m => it_1 o n (ex_1 o m)
/-- one part makes one -/
def OneR (am : Nat → Nat) (lo : Nat) (opc kd : Int32) (mk : Ex → Ex) : Prop := ∀ (σ : Hp) (m1 : Ex) (n x nlo nhi a c cl ch h k1 : Nat), ND σ n (n + 1) opc kd [x] 2 → lo ≤ nlo → nlo ≤ n → n + 2 ≤ nhi → nlo ≤ a → c ≤ nhi → RepH m1 lo a c cl ch σ am x h k1 → RepN (mk m1) lo nlo nhi σ am n (h + 1) (k1 + 1)
section Funary
variable {z : State} {l : Launch} {am : Nat → Nat} {T : Nat → Int32} {L sa lo : Nat} {X : PX} {k0 : Nat}
theorem fr_unary (X : PX) (k p ops : Nat) : sp_factor T L X k p ops = if tk_g T L p = 25 then (if 30 - k = 0 then .error (tk_s T L p) else match sp_factor T L X (k + 1) (tk_e T L p) ops with
    | .error e => .error e
    | .ok (m, p2, o2) => .ok (ex_1 33 m, p2, o2)) else sp_prim T L X k p ops := by
  unfold sp_factor
  by_cases h : tk_g T L p = 25
  · rw [if_pos h]
    by_cases h0 : 30 - k = 0
    · rw [if_pos h0, h0, sp_front, if_pos h]
    · rw [if_neg h0]
      obtain ⟨j, hj⟩ : ∃ j, 30 - k = j + 1 := ⟨30 - k - 1, by omega⟩
      rw [hj, show 30 - (k + 1) = j by omega, sp_front, if_pos h]
      cases sp_front T L 25 j (tk_e T L p) with
      | error e => rfl
      | ok x =>
        obtain ⟨i, q⟩ := x
        show (match sp_prim T L X (k + (i + 1)) q ops with
          | .error e => .error e
          | .ok (m, p2, o2) => .ok (ex_it 33 (i + 1) m, p2, o2) : Pr) = _
        rw [show k + (i + 1) = k + 1 + i by omega]
        show _ = (match (match sp_prim T L X (k + 1 + i) q ops with
          | .error e => .error e
          | .ok (m, p2, o2) => .ok (ex_it 33 i m, p2, o2) : Pr) with
          | .error e => .error e
          | .ok (m, p2, o2) => .ok (ex_1 33 m, p2, o2) : Pr)
        cases sp_prim T L X (k + 1 + i) q ops with
        | error e => rfl
        | ok y =>
          obtain ⟨m, p2, o2⟩ := y
          show (Except.ok (ex_it 33 i (ex_1 33 m), p2, o2) : Pr) = _
          rw [it_1]
  · rw [if_neg h]
    have e : ∀ n, sp_front T L 25 n p = .ok (0, p) := fun n => by cases n <;> exact if_neg h
    rw [e]
    show (match sp_prim T L X k p ops with
      | .error e => .error e
      | .ok (m, p2, o2) => .ok (m, p2, o2) : Pr) = _
    cases sp_prim T L X k p ops with
    | error e => rfl
    | ok y => rfl
theorem rm_unary (hS : ∀ k, k ≤ 30 → k0 ≤ k → RM z l am T L sa lo mt_M_primary [.ref (am 0), .retAddr 0, .retAddr 0, .retAddr 0] k 2 (4 * (31 - k) - 3) (sp_prim T L X k)) (hP : OneR am lo 13 0 (ex_1 33)) : ∀ (n k : Nat), k + n = 30 → k0 ≤ k → RM z l am T L sa lo mt_M_unary [.ref (am 0), .retAddr 0] k 3 (4 * (31 - k) - 3) (sp_factor T L X k) := by
  intro n
  induction n with
  | zero =>
    intro k hk hk0 d σ w p ops Q hG kk
    have hst : MSt z σ := hG.1.2.2.2.2.2.2.2.1
    have w50 : w.I 0 50 = nI k := hG.2.2.2.2.1
    refine cm_M_unary (d := d + 10 * (30 - k) + 24) hG.1.1 (mg_is (d := d + 10 * (30 - k) + 21) (g := 25) hG (ms_c254 hst) (by decide) (by decide) (fun _ => gj_nextI ?_))
    by_cases h : tk_g T L p = 25
    · rw [decide_eq_true h]
      have c30 : 30 ≤ w.I 0 50 := by rw [w50]; exact nI_le (a := 30) (by omega) (by omega)
      exact cm_M_unary_6 (d := d + 10 * (30 - k) + 24) hG.1.1 hG.1.2.1 (fun _ _ => kk _ _ (mo_err (by rw [fr_unary, if_pos h, if_pos (by omega)]) hG.brk)) (fun _ q => absurd c30 q) (fun q => absurd (show (1 : Int32) = 0 from q) (by decide))
    · rw [decide_eq_false h]
      have es : sp_factor T L X k p ops = sp_prim T L X k p ops := by rw [fr_unary, if_neg h]
      refine cm_M_unary_6 (d := d + 10 * (30 - k) + 24) hG.1.1 hG.1.2.1 (fun q => absurd rfl q) (fun q => absurd rfl q) (fun _ => ?_)
      refine hS k (by omega) hk0 d σ w p ops _ hG (fun o H hMO => ?_)
      cases hr : sp_prim T L X k p ops with
      | error e =>
        rw [hr] at hMO es
        obtain ⟨rfl, hB⟩ := hMO
        exact fun _ => gj_nextT (go_out (fun _ h => nomatch h) (kk _ _ (mo_err es hB)))
      | ok x =>
        obtain ⟨m, p2, o2⟩ := x
        rw [hr] at hMO es
        obtain ⟨y, σ3, w3, rfl, rfl, G3, ho, hp, F3, W3, B3, R3⟩ := hMO
        intro _
        exact gj_nextI (cm_M_unary_13 (d := d + 10 * (30 - k) + 24) G3.1.1 (kk _ _ (mo_ok es G3 ho hp F3 W3 B3 R3)))
  | succ n ih =>
    intro k hk hk0 d σ w p ops Q hG kk
    have hst : MSt z σ := hG.1.2.2.2.2.2.2.2.1
    have w50 : w.I 0 50 = nI k := hG.2.2.2.2.1
    refine cm_M_unary (d := d + 10 * (30 - k) + 24) hG.1.1 (mg_is (d := d + 10 * (30 - k) + 21) (g := 25) hG (ms_c254 hst) (by decide) (by decide) (fun _ => gj_nextI ?_))
    by_cases h : tk_g T L p = 25
    · rw [decide_eq_true h]
      have c30 : ¬ 30 ≤ w.I 0 50 := by rw [w50]; exact nI_ge (b := 30) (by omega) (by omega)
      have es : sp_factor T L X k p ops = match sp_factor T L X (k + 1) (tk_e T L p) ops with
          | .error e => .error e
          | .ok (m, p2, o2) => .ok (ex_1 33 m, p2, o2) := by rw [fr_unary, if_pos h, if_neg (by omega)]
      refine cm_M_unary_6 (d := d + 10 * (30 - k) + 24) hG.1.1 hG.1.2.1 (fun _ q => absurd q c30) (fun _ _ => ?_) (fun q => absurd (show (1 : Int32) = 0 from q) (by decide))
      rw [w50, nI_1]
      have G0 := hG.setk (v := k + 1) (by omega)
      have W0 : WS w (w.setI 0 50 (nI (k + 1))) := WS.setI w _ (by decide) (by decide)
      refine mg_next (d := d + 10 * (30 - k) + 18) G0 (by omega) (by omega) (fun σ1 w1 G1 F1 S1 B1 _ => gj_nextV (go_wf fun hw1 => cm_M_unary_22 (d := d + 10 * (30 - k) + 24) G1.1.1 (mo_node (d := d + 10 * (30 - k) + 23) G1.1.1 (fun σ2 c2 F2 N2 n2 s2 z2 _ => gj_nextI (go_wf fun hw2 => ?_)))))
      have am7 := hG.2.2.2.2.2.2.2.2.2
      have W1 : WS w w1 := W0.trans S1.ws
      obtain ⟨b11, b12, b13, b14⟩ := id B1
      have de : d + 9 + 10 * (30 - (k + 1)) + 30 + 3 = d + 10 * (30 - k) + 32 := by omega
      refine cm_M_unary_28 (d := d + 10 * (30 - k) + 24) c2 (go_wf fun hw9 => go_eq de (ih (k + 1) (by omega) (by omega) (d + 9) σ2 w1 _ _ _ (G1.fr c2 F2 hw1) (fun o H hMO => ?_)))
      cases hr : sp_factor T L X (k + 1) (tk_e T L p) ops with
      | error e =>
        rw [hr] at hMO es
        obtain ⟨rfl, hB⟩ := hMO
        exact fun _ => gj_nextT (go_out (fun _ h => nomatch h) (kk _ _ (mo_err es (MB.pre (F1.tr F2) W1 ⟨by omega, by omega⟩ hB))))
      | ok x =>
        obtain ⟨m, p2, o2⟩ := x
        rw [hr] at hMO es
        obtain ⟨y, σ3, w3, rfl, rfl, G3, ho, hp, F3, W3, B3, R3⟩ := hMO
        intro _
        have f3n := F3.1
        have f1n := F1.1
        have N3 : ND σ3 σ1.nx (σ1.nx + 1) 13 0 [] 2 := N2.mv (F3.2.2 _ (by omega) (c2.out N2.1 rfl) (fun q => q)) (F3.2.2 _ (by omega) (fun i hi e => by have := am7 i hi; have := hG.2.2.2.2.2.2.2.2.1; omega) (fun q => q))
        have mb : mx am (σ1.nx + 1) := fun i hi e => by have := am7 i hi; have := hG.2.2.2.2.2.2.2.2.1; omega
        refine gj_nextI (go_wf fun hw3 => cm_M_unary_34 (d := d + 10 * (30 - k) + 24) G3.1.1 N3.1 (mo_add (d := d + 10 * (30 - k) + 23) G3.1.1 N3 mb R3.2.2.2.1 z2 (by omega) (Nat.zero_le _) (by decide) (fun i hi => absurd hi (Nat.not_lt_zero _)) (fun σ4 b4 cap4 c4 F4 N4 o4 b4d m4 lt4 n4 s4 e4 l4 _ => gj_nextV (cm_M_unary_37 (d := d + 10 * (30 - k) + 24) c4 ?_))))
        obtain ⟨e4n, e4s, e4b, e4c⟩ := e4 (by decide)
        subst e4b
        subst e4c
        have hx : ∀ a, a = σ1.nx ∨ a = σ1.nx + 1 → (σ3.tag a = 9 ∨ σ3.tag a = 26) ∧ z.heap.size ≤ a := fun a q => by
          rcases q with rfl | rfl
          · exact ⟨Or.inl N3.1, by omega⟩
          · exact ⟨Or.inr N3.2.2.2.2.1, by omega⟩
        have G4 := (G3.fx c4 F4 hx hw3).setk (v := k) (by omega)
        have e50 : w3.I 0 50 - 1 = nI k := by rw [G3.2.2.2.2.1]; exact pk_sub (a := k + 1) (b := 1) (by omega)
        rw [e50]
        have F5 : Fm am (fun _ => False) σ σ4 := ((F1.tr F2).tr F3).trans F4 (fun _ _ q => q) (fun a ha q => by omega)
        obtain ⟨b31, b32⟩ := B3
        have R4 : RepN m lo σ2.nx σ3.nx σ4 am y _ _ := R3.mv (F4.ag (Nat.le_refl _) am7 R3.1 (fun a q r => by
          rcases r with r | r
          · have := r.1; omega
          · have t9 := (hx a q).1
            rcases r.2.2 with e | e | e <;> rcases t9 with t | t <;> rw [e] at t <;> exact absurd t (by decide)))
        have R5 := hP σ4 m σ1.nx y σ1.nx σ4.nx σ2.nx σ3.nx 0 0 _ _ N4 (by have := G1.2.2.2.2.2.2.2.2.1; omega) (Nat.le_refl _) (by omega) (by omega) (by omega) R4
        refine kk _ _ (mo_ok es G4 ho (by omega) F5 ((W1.trans W3).trans (WS.setI w3 _ (by decide) (by decide))) ⟨by omega, by omega⟩ ((R5.wide (nlo := σ.nx) (by have := hG.2.2.2.2.2.2.2.2.1; omega) f1n (Nat.le_refl _)).mono (by omega) (by omega)))
    · rw [decide_eq_false h]
      have es : sp_factor T L X k p ops = sp_prim T L X k p ops := by rw [fr_unary, if_neg h]
      refine cm_M_unary_6 (d := d + 10 * (30 - k) + 24) hG.1.1 hG.1.2.1 (fun q => absurd rfl q) (fun q => absurd rfl q) (fun _ => ?_)
      refine hS k (by omega) hk0 d σ w p ops _ hG (fun o H hMO => ?_)
      cases hr : sp_prim T L X k p ops with
      | error e =>
        rw [hr] at hMO es
        obtain ⟨rfl, hB⟩ := hMO
        exact fun _ => gj_nextT (go_out (fun _ h => nomatch h) (kk _ _ (mo_err es hB)))
      | ok x =>
        obtain ⟨m, p2, o2⟩ := x
        rw [hr] at hMO es
        obtain ⟨y, σ3, w3, rfl, rfl, G3, ho, hp, F3, W3, B3, R3⟩ := hMO
        intro _
        exact gj_nextI (cm_M_unary_13 (d := d + 10 * (30 - k) + 24) G3.1.1 (kk _ _ (mo_ok es G3 ho hp F3 W3 B3 R3)))
end Funary
section Fnegated
variable {z : State} {l : Launch} {am : Nat → Nat} {T : Nat → Int32} {L sa lo : Nat} {X : PX} {k0 : Nat}
theorem fr_negated (X : PX) (k p ops : Nat) : sp_cond T L X k p ops = if tk_g T L p = 2 then (if 30 - k = 0 then .error (tk_s T L p) else match sp_cond T L X (k + 1) (tk_e T L p) ops with
    | .error e => .error e
    | .ok (m, p2, o2) => .ok (ex_1 16 m, p2, o2)) else sp_condB T L X k p ops := by
  unfold sp_cond
  by_cases h : tk_g T L p = 2
  · rw [if_pos h]
    by_cases h0 : 30 - k = 0
    · rw [if_pos h0, h0, sp_front, if_pos h]
    · rw [if_neg h0]
      obtain ⟨j, hj⟩ : ∃ j, 30 - k = j + 1 := ⟨30 - k - 1, by omega⟩
      rw [hj, show 30 - (k + 1) = j by omega, sp_front, if_pos h]
      cases sp_front T L 2 j (tk_e T L p) with
      | error e => rfl
      | ok x =>
        obtain ⟨i, q⟩ := x
        show (match sp_condB T L X (k + (i + 1)) q ops with
          | .error e => .error e
          | .ok (m, p2, o2) => .ok (ex_it 16 (i + 1) m, p2, o2) : Pr) = _
        rw [show k + (i + 1) = k + 1 + i by omega]
        show _ = (match (match sp_condB T L X (k + 1 + i) q ops with
          | .error e => .error e
          | .ok (m, p2, o2) => .ok (ex_it 16 i m, p2, o2) : Pr) with
          | .error e => .error e
          | .ok (m, p2, o2) => .ok (ex_1 16 m, p2, o2) : Pr)
        cases sp_condB T L X (k + 1 + i) q ops with
        | error e => rfl
        | ok y =>
          obtain ⟨m, p2, o2⟩ := y
          show (Except.ok (ex_it 16 i (ex_1 16 m), p2, o2) : Pr) = _
          rw [it_1]
  · rw [if_neg h]
    have e : ∀ n, sp_front T L 2 n p = .ok (0, p) := fun n => by cases n <;> exact if_neg h
    rw [e]
    show (match sp_condB T L X k p ops with
      | .error e => .error e
      | .ok (m, p2, o2) => .ok (m, p2, o2) : Pr) = _
    cases sp_condB T L X k p ops with
    | error e => rfl
    | ok y => rfl
theorem rm_negated (hS : ∀ k, k ≤ 30 → k0 ≤ k → RM z l am T L sa lo mt_M_compared [.ref (am 0), .retAddr 0, .retAddr 0] k 7 (4 * (31 - k) - 1) (sp_condB T L X k)) (hP : OneR am lo 12 0 (ex_1 16)) : ∀ (n k : Nat), k + n = 30 → k0 ≤ k → RM z l am T L sa lo mt_M_negated [.ref (am 0), .retAddr 0] k 8 (4 * (31 - k) - 1) (sp_cond T L X k) := by
  intro n
  induction n with
  | zero =>
    intro k hk hk0 d σ w p ops Q hG kk
    have hst : MSt z σ := hG.1.2.2.2.2.2.2.2.1
    have w50 : w.I 0 50 = nI k := hG.2.2.2.2.1
    refine cm_M_negated (d := d + 10 * (30 - k) + 29) hG.1.1 (mg_is (d := d + 10 * (30 - k) + 26) (g := 2) hG (ms_c208 hst) (by decide) (by decide) (fun _ => gj_nextI ?_))
    by_cases h : tk_g T L p = 2
    · rw [decide_eq_true h]
      have c30 : 30 ≤ w.I 0 50 := by rw [w50]; exact nI_le (a := 30) (by omega) (by omega)
      exact cm_M_negated_6 (d := d + 10 * (30 - k) + 29) hG.1.1 hG.1.2.1 (fun _ _ => kk _ _ (mo_err (by rw [fr_negated, if_pos h, if_pos (by omega)]) hG.brk)) (fun _ q => absurd c30 q) (fun q => absurd (show (1 : Int32) = 0 from q) (by decide))
    · rw [decide_eq_false h]
      have es : sp_cond T L X k p ops = sp_condB T L X k p ops := by rw [fr_negated, if_neg h]
      refine cm_M_negated_6 (d := d + 10 * (30 - k) + 29) hG.1.1 hG.1.2.1 (fun q => absurd rfl q) (fun q => absurd rfl q) (fun _ => ?_)
      refine hS k (by omega) hk0 d σ w p ops _ hG (fun o H hMO => ?_)
      cases hr : sp_condB T L X k p ops with
      | error e =>
        rw [hr] at hMO es
        obtain ⟨rfl, hB⟩ := hMO
        exact fun _ => gj_nextT (go_out (fun _ h => nomatch h) (kk _ _ (mo_err es hB)))
      | ok x =>
        obtain ⟨m, p2, o2⟩ := x
        rw [hr] at hMO es
        obtain ⟨y, σ3, w3, rfl, rfl, G3, ho, hp, F3, W3, B3, R3⟩ := hMO
        intro _
        exact gj_nextI (cm_M_negated_13 (d := d + 10 * (30 - k) + 29) G3.1.1 (kk _ _ (mo_ok es G3 ho hp F3 W3 B3 R3)))
  | succ n ih =>
    intro k hk hk0 d σ w p ops Q hG kk
    have hst : MSt z σ := hG.1.2.2.2.2.2.2.2.1
    have w50 : w.I 0 50 = nI k := hG.2.2.2.2.1
    refine cm_M_negated (d := d + 10 * (30 - k) + 29) hG.1.1 (mg_is (d := d + 10 * (30 - k) + 26) (g := 2) hG (ms_c208 hst) (by decide) (by decide) (fun _ => gj_nextI ?_))
    by_cases h : tk_g T L p = 2
    · rw [decide_eq_true h]
      have c30 : ¬ 30 ≤ w.I 0 50 := by rw [w50]; exact nI_ge (b := 30) (by omega) (by omega)
      have es : sp_cond T L X k p ops = match sp_cond T L X (k + 1) (tk_e T L p) ops with
          | .error e => .error e
          | .ok (m, p2, o2) => .ok (ex_1 16 m, p2, o2) := by rw [fr_negated, if_pos h, if_neg (by omega)]
      refine cm_M_negated_6 (d := d + 10 * (30 - k) + 29) hG.1.1 hG.1.2.1 (fun _ q => absurd q c30) (fun _ _ => ?_) (fun q => absurd (show (1 : Int32) = 0 from q) (by decide))
      rw [w50, nI_1]
      have G0 := hG.setk (v := k + 1) (by omega)
      have W0 : WS w (w.setI 0 50 (nI (k + 1))) := WS.setI w _ (by decide) (by decide)
      refine mg_next (d := d + 10 * (30 - k) + 23) G0 (by omega) (by omega) (fun σ1 w1 G1 F1 S1 B1 _ => gj_nextV (go_wf fun hw1 => cm_M_negated_22 (d := d + 10 * (30 - k) + 29) G1.1.1 (mo_node (d := d + 10 * (30 - k) + 28) G1.1.1 (fun σ2 c2 F2 N2 n2 s2 z2 _ => gj_nextI (go_wf fun hw2 => ?_)))))
      have am7 := hG.2.2.2.2.2.2.2.2.2
      have W1 : WS w w1 := W0.trans S1.ws
      obtain ⟨b11, b12, b13, b14⟩ := id B1
      have de : d + 9 + 10 * (30 - (k + 1)) + 30 + 8 = d + 10 * (30 - k) + 37 := by omega
      refine cm_M_negated_28 (d := d + 10 * (30 - k) + 29) c2 (go_wf fun hw9 => go_eq de (ih (k + 1) (by omega) (by omega) (d + 9) σ2 w1 _ _ _ (G1.fr c2 F2 hw1) (fun o H hMO => ?_)))
      cases hr : sp_cond T L X (k + 1) (tk_e T L p) ops with
      | error e =>
        rw [hr] at hMO es
        obtain ⟨rfl, hB⟩ := hMO
        exact fun _ => gj_nextT (go_out (fun _ h => nomatch h) (kk _ _ (mo_err es (MB.pre (F1.tr F2) W1 ⟨by omega, by omega⟩ hB))))
      | ok x =>
        obtain ⟨m, p2, o2⟩ := x
        rw [hr] at hMO es
        obtain ⟨y, σ3, w3, rfl, rfl, G3, ho, hp, F3, W3, B3, R3⟩ := hMO
        intro _
        have f3n := F3.1
        have f1n := F1.1
        have N3 : ND σ3 σ1.nx (σ1.nx + 1) 12 0 [] 2 := N2.mv (F3.2.2 _ (by omega) (c2.out N2.1 rfl) (fun q => q)) (F3.2.2 _ (by omega) (fun i hi e => by have := am7 i hi; have := hG.2.2.2.2.2.2.2.2.1; omega) (fun q => q))
        have mb : mx am (σ1.nx + 1) := fun i hi e => by have := am7 i hi; have := hG.2.2.2.2.2.2.2.2.1; omega
        refine gj_nextI (go_wf fun hw3 => cm_M_negated_34 (d := d + 10 * (30 - k) + 29) G3.1.1 N3.1 (mo_add (d := d + 10 * (30 - k) + 28) G3.1.1 N3 mb R3.2.2.2.1 z2 (by omega) (Nat.zero_le _) (by decide) (fun i hi => absurd hi (Nat.not_lt_zero _)) (fun σ4 b4 cap4 c4 F4 N4 o4 b4d m4 lt4 n4 s4 e4 l4 _ => gj_nextV (cm_M_negated_37 (d := d + 10 * (30 - k) + 29) c4 ?_))))
        obtain ⟨e4n, e4s, e4b, e4c⟩ := e4 (by decide)
        subst e4b
        subst e4c
        have hx : ∀ a, a = σ1.nx ∨ a = σ1.nx + 1 → (σ3.tag a = 9 ∨ σ3.tag a = 26) ∧ z.heap.size ≤ a := fun a q => by
          rcases q with rfl | rfl
          · exact ⟨Or.inl N3.1, by omega⟩
          · exact ⟨Or.inr N3.2.2.2.2.1, by omega⟩
        have G4 := (G3.fx c4 F4 hx hw3).setk (v := k) (by omega)
        have e50 : w3.I 0 50 - 1 = nI k := by rw [G3.2.2.2.2.1]; exact pk_sub (a := k + 1) (b := 1) (by omega)
        rw [e50]
        have F5 : Fm am (fun _ => False) σ σ4 := ((F1.tr F2).tr F3).trans F4 (fun _ _ q => q) (fun a ha q => by omega)
        obtain ⟨b31, b32⟩ := B3
        have R4 : RepN m lo σ2.nx σ3.nx σ4 am y _ _ := R3.mv (F4.ag (Nat.le_refl _) am7 R3.1 (fun a q r => by
          rcases r with r | r
          · have := r.1; omega
          · have t9 := (hx a q).1
            rcases r.2.2 with e | e | e <;> rcases t9 with t | t <;> rw [e] at t <;> exact absurd t (by decide)))
        have R5 := hP σ4 m σ1.nx y σ1.nx σ4.nx σ2.nx σ3.nx 0 0 _ _ N4 (by have := G1.2.2.2.2.2.2.2.2.1; omega) (Nat.le_refl _) (by omega) (by omega) (by omega) R4
        refine kk _ _ (mo_ok es G4 ho (by omega) F5 ((W1.trans W3).trans (WS.setI w3 _ (by decide) (by decide))) ⟨by omega, by omega⟩ ((R5.wide (nlo := σ.nx) (by have := hG.2.2.2.2.2.2.2.2.1; omega) f1n (Nat.le_refl _)).mono (by omega) (by omega)))
    · rw [decide_eq_false h]
      have es : sp_cond T L X k p ops = sp_condB T L X k p ops := by rw [fr_negated, if_neg h]
      refine cm_M_negated_6 (d := d + 10 * (30 - k) + 29) hG.1.1 hG.1.2.1 (fun q => absurd rfl q) (fun q => absurd rfl q) (fun _ => ?_)
      refine hS k (by omega) hk0 d σ w p ops _ hG (fun o H hMO => ?_)
      cases hr : sp_condB T L X k p ops with
      | error e =>
        rw [hr] at hMO es
        obtain ⟨rfl, hB⟩ := hMO
        exact fun _ => gj_nextT (go_out (fun _ h => nomatch h) (kk _ _ (mo_err es hB)))
      | ok x =>
        obtain ⟨m, p2, o2⟩ := x
        rw [hr] at hMO es
        obtain ⟨y, σ3, w3, rfl, rfl, G3, ho, hp, F3, W3, B3, R3⟩ := hMO
        intro _
        exact gj_nextI (cm_M_negated_13 (d := d + 10 * (30 - k) + 29) G3.1.1 (kk _ _ (mo_ok es G3 ho hp F3 W3 B3 R3)))
end Fnegated
