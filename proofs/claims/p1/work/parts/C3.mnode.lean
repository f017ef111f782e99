/-! ===== the reference's nodes ===== -/
/-- the node n over the array b of cap places: its operation, its kind, its parts -/
def ND (σ : Hp) (n b : Nat) (op kd : Int32) (ps : List Nat) (cap : Nat) : Prop := σ.tag n = 9 ∧ σ.I 63 n = op ∧ σ.I 64 n = kd ∧ σ.A 67 n = some b ∧ σ.tag b = 26 ∧ σ.len b = cap ∧ σ.I 68 n = nI ps.length ∧ ps.length ≤ cap ∧ ∀ i, i < ps.length → σ.eA b i = some (ps.getD i 0)
theorem ND.mv {σ σ' : Hp} {n b cap : Nat} {op kd : Int32} {ps : List Nat} (h : ND σ n b op kd ps cap) (s1 : SameC σ σ' n) (s2 : SameC σ σ' b) : ND σ' n b op kd ps cap := by
  obtain ⟨h1, h2, h3, h4, h5, h6, h7, h8, h9⟩ := h
  exact ⟨s1.1.trans h1, (s1.2.2.1 63).1.trans h2, (s1.2.2.1 64).1.trans h3, (s1.2.2.1 67).2.2.trans h4, s2.1.trans h5, s2.2.1.trans h6, (s1.2.2.1 68).1.trans h7, h8, fun i hi => by rw [s2.2.2.2.2.2]; exact h9 i hi⟩
section MNode
variable {z : State} {l : Launch} {d : Nat} {σ : Hp} {am : Nat → Nat} {w : Wd} {Q : Outcome → Hp → Prop}
theorem mo_node {x1 x2 : Int32} (hc : CM z σ am) (k : ∀ σ', CM z σ' am → Fm am (fun _ => False) σ σ' → ND σ' σ.nx (σ.nx + 1) x1 x2 [] 2 → σ'.nx = σ.nx + 2 → σ'.sl = σ.sl + 9 → z.heap.size ≤ σ.nx → Q (.returned (some (.ref σ.nx))) (ov σ' am 7 w)) :
    Go z l mt_M_node (d + 9) 0 [.int x1, .int x2, .retAddr 0] [] (ov σ am 7 w) Q := by
  refine go_wf fun hw => ?_
  have hx0 : mx am σ.nx := hc.nxO hw
  have lt7 : ∀ i, i < 7 → am i < σ.nx := hc.lt hw
  have ne01 : σ.nx ≠ σ.nx + 1 := by omega
  refine cm_M_node hc ?_
  have fr : ∀ a, a < σ.nx → SameC σ (((((σ.newO 9 7).newA 26 2).setA 67 σ.nx (some ((σ.newO 9 7).nx))).setI 63 σ.nx x1).setI 64 σ.nx x2) a := fun a ha =>
    ((((SameC.newO ha).trans (SameC.newA (Nat.lt_succ_of_lt ha))).trans (SameC.setA (Nat.ne_of_lt ha))).trans (SameC.setI (Nat.ne_of_lt ha))).trans (SameC.setI (Nat.ne_of_lt ha))
  refine k _ ⟨hc.1, fun i hi => ?_⟩ ⟨Nat.le_add_right _ 2, Nat.le_add_right _ 9, fun a ha _ _ => fr a ha⟩ ⟨(hp_up_ne _ _ ne01).trans (hp_up_same _ _ _), (Hp.sI_nf _ _ _ _ (by decide)).trans (Hp.sI _ _ _ _), Hp.sI _ _ _ _, Hp.sA _ _ _ _, hp_up_same _ _ _, hp_up_same _ _ _, ?_, Nat.zero_le _, fun i hi => absurd hi (Nat.not_lt_zero _)⟩ rfl rfl (hc.zs hw)
  · have s9 := fr _ (lt7 i hi)
    exact ⟨s9.1.trans (hc.2 i hi).1, s9.2.1.trans (hc.2 i hi).2.1, (hc.2 i hi).2.2⟩
  · have h9 := ((hw.1 σ.nx (Nat.le_refl _)).2.2.1 68).1
    rw [nn_I hx0] at h9
    exact ((Hp.sI_nf _ _ _ _ (by decide)).trans (Hp.sI_nf _ _ _ _ (by decide))).trans h9
/-- the other fields of a node -/
def NO (σ σ' : Hp) (n : Nat) : Prop := σ'.A 65 n = σ.A 65 n ∧ σ'.A 66 n = σ.A 66 n
theorem mo_add {n b cap x : Nat} {op kd : Int32} {ps : List Nat} (hc : CM z σ am) (hN : ND σ n b op kd ps cap) (hb : mx am b) (hx : σ.tag x = 9) (hz : z.heap.size ≤ n) (hzb : z.heap.size ≤ b) (hcap : ps.length ≤ 40) (hc9 : 1 ≤ cap ∧ cap ≤ 100) (hps : ∀ i, i < ps.length → σ.tag (ps.getD i 0) = 9)
    (k : ∀ σ' b' cap', CM z σ' am → Fm am (fun a => a = n ∨ a = b) σ σ' → ND σ' n b' op kd (ps ++ [x]) cap' → NO σ σ' n → (b' = b ∨ σ.nx ≤ b') → mx am b' → b' < σ'.nx → σ'.nx ≤ σ.nx + 1 → σ'.sl ≤ σ.sl + 80 → (ps.length < cap → σ'.nx = σ.nx ∧ σ'.sl = σ.sl ∧ b' = b ∧ cap' = cap) → 1 ≤ cap' ∧ cap' ≤ 100 → Q (.returned none) (ov σ' am 7 w)) :
    Go z l mt_N_add (d + 9) 0 [.ref n, .ref x, .retAddr 0, .retAddr 0] [] (ov σ am 7 w) Q := by
  refine go_wf fun hw => ?_
  obtain ⟨n1, n2, n3, n4, n5, n6, n7, n8, n9⟩ := hN
  have lt7 : ∀ i, i < 7 → am i < σ.nx := hc.lt hw
  have hnb : n ≠ b := fun e => by rw [e, n5] at n1; exact absurd n1 (by decide)
  have nlt : n < σ.nx := hw.lt (show (ov σ am 7 w).tag n ≠ 0 by show σ.tag n ≠ 0; rw [n1]; decide)
  have blt : b < σ.nx := hw.lt (show (ov σ am 7 w).tag b ≠ 0 by show σ.tag b ≠ 0; rw [n5]; decide)
  have ec : (nI ps.length).toNatClampNeg = ps.length := nI_clamp (by omega)
  have app : ∀ i, i < (ps ++ [x]).length → (ps ++ [x]).getD i 0 = if i = ps.length then x else ps.getD i 0 := fun i hi => by
    by_cases e : i = ps.length
    · rw [if_pos e, e]; simp [List.getD]
    · rw [if_neg e]
      have : i < ps.length := by rw [List.length_append, List.length_singleton] at hi; omega
      simp [List.getD, List.getElem?_append_left this]
  have la : (ps ++ [x]).length = ps.length + 1 := by rw [List.length_append, List.length_singleton]
  have mnx : mx am σ.nx := hc.nxO hw
  by_cases full : ps.length = cap
  · -- a wider array
    have loop : ∀ (m i : Nat) (τ : Hp), i + m = ps.length → CM z τ am → (∀ a, a < σ.nx → SameC σ τ a) → τ.tag σ.nx = 26 → τ.len σ.nx = 2 * cap → τ.nx = σ.nx + 1 → τ.sl = σ.sl + 2 * cap → (∀ j, j < i → τ.eA σ.nx j = some (ps.getD j 0)) → Go z l mt_N_add (d + 9) 24 [.ref n, .ref x, .ref σ.nx, .int (nI i)] [] (ov τ am 7 w) Q := by
      intro m
      induction m with
      | zero =>
        intro i τ hi hcτ fr t1 t2 t3 t4 te
        have sn := fr n nlt
        have e68 : τ.I 68 n = nI ps.length := (sn.2.2.1 68).1.trans n7
        have hzx : z.heap.size ≤ σ.nx := Nat.le_of_lt (Nat.lt_of_le_of_lt hz nlt)
        have hx' : τ.tag x = 9 := ((fr x (hw.lt (show (ov σ am 7 w).tag x ≠ 0 by show σ.tag x ≠ 0; rw [hx]; decide))).1).trans hx
        refine cm_N_add_24 (d := d) (b7 := b) (b11 := x) hcτ (sn.1.trans n1) hz t1 hzx hx' ((fr b blt).1.trans n5) hx' (fun _ => ?_) (fun _ => ?_) (fun q => absurd (by rw [e68]; exact nI_le (by omega) (by omega)) q) (fun q => absurd (by rw [e68]; exact nI_le (by omega) (by omega)) q) (fun q => absurd (by rw [e68]; exact nI_le (by omega) (by omega)) q) (fun q => absurd (by rw [e68]; exact nI_le (by omega) (by omega)) q) (fun q => absurd (by rw [e68]; exact nI_le (by omega) (by omega)) q)
        · rw [e68, t2]; exact vp_in_nI (by omega) (by omega)
        · have nn : n ≠ σ.nx := Nat.ne_of_lt nlt
          have frc : ∀ a, a < σ.nx → a ≠ n → SameC σ (((τ.setA 67 n (some σ.nx)).rowA σ.nx (va_up ((τ.setA 67 n (some σ.nx)).eA σ.nx) ((τ.I 68 n).toNatClampNeg) (some x))).setI 68 n ((τ.I 68 n) + 1)) a := fun a ha hne => (((fr a ha).trans (SameC.setA hne)).trans (SameC.rowA (Nat.ne_of_lt ha))).trans (SameC.setI hne)
          refine k _ σ.nx (2 * cap) ⟨hc.1, fun i hi => ?_⟩ ⟨by show σ.nx ≤ τ.nx; omega, by show σ.sl ≤ τ.sl; omega, fun a ha _ hx9 => frc a ha (fun e => hx9 (Or.inl e))⟩ ⟨sn.1.trans n1, ?_, ?_, ?_, t1, t2, ?_, by rw [la]; omega, fun i hi => ?_⟩ ⟨?_, ?_⟩ (Or.inr (Nat.le_refl _)) mnx (by show σ.nx < τ.nx; omega) (by show τ.nx ≤ _; omega) (by show τ.sl ≤ _; omega) (fun q => by omega) ⟨by omega, by omega⟩
          · have s9 := frc (am i) (lt7 i hi) (fun e => hc.out n1 rfl i hi e.symm)
            exact ⟨s9.1.trans (hc.2 i hi).1, s9.2.1.trans (hc.2 i hi).2.1, (hc.2 i hi).2.2⟩
          · exact (Hp.sI_nf _ _ _ _ (by decide)).trans ((sn.2.2.1 63).1.trans n2)
          · exact (Hp.sI_nf _ _ _ _ (by decide)).trans ((sn.2.2.1 64).1.trans n3)
          · exact (show (τ.setA 67 n (some σ.nx)).A 67 n = some σ.nx from Hp.sA _ _ _ _)
          · refine (Hp.sI _ _ _ _).trans ?_
            rw [e68, la, nI_1]
          · show (va_up τ.eA σ.nx (va_up (τ.eA σ.nx) ((τ.I 68 n).toNatClampNeg) (some x))) σ.nx i = _
            rw [hp_up_same, e68, ec, app i hi]
            by_cases e : i = ps.length
            · rw [if_pos e, e, hp_up_same]
            · rw [if_neg e, hp_up_ne _ _ e]
              rw [la] at hi
              exact te i (by omega)
          · exact (show (τ.setA 67 n (some σ.nx)).A 65 n = τ.A 65 n from Hp.sA_nf _ _ _ _ (by decide)).trans (sn.2.2.1 65).2.2
          · exact (show (τ.setA 67 n (some σ.nx)).A 66 n = τ.A 66 n from Hp.sA_nf _ _ _ _ (by decide)).trans (sn.2.2.1 66).2.2
      | succ m ih =>
        intro i τ hi hcτ fr t1 t2 t3 t4 te
        have sn := fr n nlt
        have sb := fr b blt
        have e68 : τ.I 68 n = nI ps.length := (sn.2.2.1 68).1.trans n7
        have hzx : z.heap.size ≤ σ.nx := Nat.le_of_lt (Nat.lt_of_le_of_lt hz nlt)
        have hx' : τ.tag x = 9 := ((fr x (hw.lt (show (ov σ am 7 w).tag x ≠ 0 by show σ.tag x ≠ 0; rw [hx]; decide))).1).trans hx
        have ei : (nI i).toNatClampNeg = i := nI_clamp (by omega)
        have pi9 : σ.tag (ps.getD i 0) = 9 := hps i (by omega)
        have plt : ps.getD i 0 < σ.nx := hw.lt (show (ov σ am 7 w).tag _ ≠ 0 by show σ.tag _ ≠ 0; rw [pi9]; decide)
        refine cm_N_add_24 (d := d) (b7 := b) (b11 := ps.getD i 0) hcτ (sn.1.trans n1) hz t1 hzx hx' (sb.1.trans n5) ((fr _ plt).1.trans pi9) (fun q => absurd (show nI ps.length ≤ nI i by rw [← e68]; exact q) (nI_ge (by omega) (by omega))) (fun q => absurd (show nI ps.length ≤ nI i by rw [← e68]; exact q) (nI_ge (by omega) (by omega))) (fun _ => (sn.2.2.1 67).2.2.trans n4) (fun _ => by rw [sb.2.1, n6]; exact vp_in_nI (by omega) (by omega)) (fun _ => by rw [sb.2.2.2.2.2, ei]; exact n9 i (by omega)) (fun _ => by rw [t2]; exact vp_in_nI (by omega) (by omega)) (fun _ => ?_)
        rw [nI_1, ei]
        refine ih (i + 1) _ (by omega) ⟨hc.1, fun j hj => ?_⟩ (fun a ha => (fr a ha).trans (SameC.rowA (Nat.ne_of_lt ha))) t1 t2 t3 t4 (fun j hj => ?_)
        · exact ⟨(hcτ.2 j hj).1, (hcτ.2 j hj).2.1, (hcτ.2 j hj).2.2⟩
        · show (va_up τ.eA σ.nx (va_up (τ.eA σ.nx) i (some (ps.getD i 0)))) σ.nx j = _
          rw [hp_up_same]
          by_cases e : j = i
          · rw [e, hp_up_same]
          · rw [hp_up_ne _ _ e]
            exact te j (by omega)
    have e2 : (2 * σ.I 68 n) = nI (2 * cap) := by
      rw [n7, full]
      show nI 2 * nI cap = nI (2 * cap)
      exact (Int32.ofNat_mul 2 cap).symm
    have e3 : (2 * σ.I 68 n).toNatClampNeg = 2 * cap := by rw [e2]; exact nI_clamp (by omega)
    have fu : σ.I 68 n = nI (σ.len b) := by rw [n7, n6, full]
    refine cm_N_add (d := d) (b2 := b) hc n1 n5 hzb hx hz n4 (fun q => absurd fu q) (fun q => absurd fu q) (fun _ => by rw [e2]; exact nI_pos (by omega)) (fun _ => by rw [e3]; omega) (fun _ => ?_)
    rw [e3]
    exact loop ps.length 0 _ (Nat.zero_add _) (hc.wA hw 26 (2 * cap)) (fun a ha => SameC.newA ha) (hp_up_same _ _ _) (hp_up_same _ _ _) rfl rfl (fun j hj => absurd hj (Nat.not_lt_zero _))
  · have lt9 : ps.length < cap := by omega
    have nf : ¬ σ.I 68 n = nI (σ.len b) := fun q => by
      rw [n7, n6] at q
      have := (nI_eq (by omega) (by omega)).mp q
      omega
    have fin : Q (.returned none) (ov ((σ.rowA b (va_up (σ.eA b) ((σ.I 68 n).toNatClampNeg) (some x))).setI 68 n ((σ.I 68 n) + 1)) am 7 w) := by
      have frc : ∀ a, a ≠ n → a ≠ b → SameC σ ((σ.rowA b (va_up (σ.eA b) ((σ.I 68 n).toNatClampNeg) (some x))).setI 68 n ((σ.I 68 n) + 1)) a := fun a h1 h2 => (SameC.rowA h2).trans (SameC.setI h1)
      refine k _ b cap ⟨hc.1, fun i hi => ?_⟩ ⟨Nat.le_refl _, Nat.le_refl _, fun a ha _ hx9 => frc a (fun e => hx9 (Or.inl e)) (fun e => hx9 (Or.inr e))⟩ ⟨n1, ?_, ?_, n4, n5, n6, ?_, by rw [la]; omega, fun i hi => ?_⟩ ⟨rfl, rfl⟩ (Or.inl rfl) hb blt (Nat.le_succ _) (Nat.le_add_right _ _) (fun _ => ⟨rfl, rfl, rfl, rfl⟩) hc9
      · have s9 := frc (am i) (fun e => hc.out n1 rfl i hi e.symm) (fun e => hb i hi e.symm)
        exact ⟨s9.1.trans (hc.2 i hi).1, s9.2.1.trans (hc.2 i hi).2.1, (hc.2 i hi).2.2⟩
      · exact (Hp.sI_nf _ _ _ _ (by decide)).trans n2
      · exact (Hp.sI_nf _ _ _ _ (by decide)).trans n3
      · refine (Hp.sI _ _ _ _).trans ?_
        rw [n7, la, nI_1]
      · show (va_up σ.eA b (va_up (σ.eA b) ((σ.I 68 n).toNatClampNeg) (some x))) b i = _
        rw [hp_up_same, n7, ec, app i hi]
        by_cases e : i = ps.length
        · rw [if_pos e, e, hp_up_same]
        · rw [if_neg e, hp_up_ne _ _ e]
          rw [la] at hi
          exact n9 i (by omega)
    exact cm_N_add (d := d) (b2 := b) hc n1 n5 hzb hx hz n4 (fun _ => by rw [n7, n6]; exact vp_in_nI lt9 (by omega)) (fun _ => fin) (fun q => absurd q nf) (fun q => absurd q nf) (fun q => absurd q nf)
end MNode
