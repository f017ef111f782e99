/-! ===== strings of the library: toString, equals, indexOf ===== -/
section Strs
variable {z : State} {l : Launch} {M : Mt} {d pc : Nat} {ls ls2 st : List Value} {σ : Hp} {Q : Outcome → Hp → Prop}
/-- locals may be forgotten -/
theorem go_fgt (hlen : ls2.length = ls.length) (h : ∀ (i : Nat) (v : Value), ls2[i]? = some v → v ≠ .retAddr 0 → ls[i]? = some v) (k : Go z l M d pc ls2 st σ Q) : Go z l M d pc ls st σ Q :=
  go_lift (fun p e R s m args below meth c la H locs cells slots Q' X hl hr kk => kk la ⟨hl.1, hl.2.1, hlen.trans hl.2.2.1, fun i v hi hv => hl.2.2.2 i v (h i v hi hv) hv⟩) k
theorem bd_range {r m : Nat} {n : Int32} (ht : σ.tag r = 21) (hzr : z.heap.size ≤ r) (hl : σ.len r = m) (hz : z.heap.size ≤ σ.nx) {q : Nat} (hn : n = nI q) (h : q ≤ m) (hm : m ≤ 30000) (k : ∀ σ', Fx (fun _ => False) σ σ' → σ'.tag σ.nx = 21 → σ'.len σ.nx = q → (∀ i, i < q → σ'.eI σ.nx i = σ.eI r i) → σ'.nx = σ.nx + 1 → σ'.sl = σ.sl + q → Q (.returned (some (.ref σ.nx))) σ') : Go z l mt_JArrays_copyOfRange (d + 9) 0 [.ref r, .int 0, .int n] [] σ Q := by
  subst hn
  refine go_wf fun hw => ?_
  have hr : r < σ.nx := hw.lt (by rw [ht]; decide)
  have e0 : nI q - 0 = nI q := by simp
  have ec : (nI q).toNatClampNeg = q := nI_clamp (by omega)
  have l1 : (σ.newA 21 q).len r = m := (hp_up_ne _ _ (by omega)).trans hl
  have l2 : (σ.newA 21 q).len σ.nx = q := hp_up_same _ _ _
  have e1 : nI m - 0 = nI m := by simp
  have h00 : (0 : Int32) ≤ nI q := Int32.not_lt.mp (nI_pos (by omega))
  have em : (if nI q < nI m then nI q else nI m) = nI q := by
    by_cases e : q < m
    · rw [if_pos (nI_lt e (by omega))]
    · rw [if_neg (nI_nlt (by omega) (by omega)), show m = q by omega]
  refine js_JArrays_copyOfRange ht hzr hz (fun q => absurd rfl q) (fun q => absurd rfl q) (fun q => absurd rfl q) (fun q => absurd rfl q) (fun q => absurd rfl q) (fun q => absurd rfl q) (fun q => absurd rfl q) (fun q => absurd rfl q) (fun q => absurd rfl q) (fun _ e => ?_) (fun _ _ _ => ?_) (fun _ _ _ => ?_) (fun _ _ _ => by decide) (fun _ _ _ => by decide) (fun _ _ _ => ?_) (fun _ _ _ => ?_) (fun _ _ _ => ?_) (fun _ _ _ => ?_) (fun _ _ e => absurd h00 e)
  · rw [hl] at e
    have e' := (nI_eq (by omega) (by omega)).mp e
    refine k _ ⟨Nat.le_succ _, Nat.le_add_right _ _, fun a ha _ => (SameC.newA ha).trans (SameC.rowI (by omega))⟩ (hp_up_same _ _ _) ((hp_up_same _ _ _).trans (hl.trans e'.symm)) (fun i hi => ?_) rfl ?_
    · show ((σ.newA 21 (σ.len r)).rowI σ.nx (σ.eI r)).eI σ.nx i = _
      rw [Hp.rI]
    · show σ.sl + σ.len r = _
      rw [hl, e']
  · rw [e0]; exact nI_pos (by omega)
  · rw [e0, ec]; omega
  · rw [e0, ec, l1, e1, em]; exact nI_pos (by omega)
  · rw [e0, ec, l1, e1, em, ec, cl_0]; omega
  · rw [e0, ec, l1, l2, e1, em, ec, cl_0]; omega
  · rw [e0, ec, l1, e1, em, ec, cl_0]
    refine k _ ⟨Nat.le_succ _, Nat.le_add_right _ _, fun a ha _ => (SameC.newA ha).trans (SameC.rowI (by omega))⟩ (hp_up_same _ _ _) (hp_up_same _ _ _) (fun i hi => ?_) rfl rfl
    show ((σ.newA 21 q).rowI σ.nx (va_cpy (σ.eI r) (σ.eI σ.nx) 0 0 q)).eI σ.nx i = _
    rw [Hp.rI]
    unfold va_cpy
    rw [if_pos ⟨by omega, by omega⟩]
    congr 1
    omega
/-- a builder's string -/
theorem bd_str {b r cap : Nat} {cs : List Int32} (hB : Bld σ b r cs cap) (hzr : z.heap.size ≤ r) (hz : z.heap.size ≤ σ.nx) (hcap : cap ≤ 30000) (k : ∀ σ', Fx (fun _ => False) σ σ' → Str σ' σ.nx cs → σ'.A 81 σ.nx = some (σ.nx + 1) → σ'.nx = σ.nx + 2 → σ'.sl = σ.sl + 4 + cs.length → Q (.returned (some (.ref σ.nx))) σ') : Go z l mt_JStringBuilder_toString (d + 12) 0 [.ref b] [] σ Q := by
  refine go_wf fun hw => ?_
  obtain ⟨h1, h2, h3, h4, h5, h6, h7, h8⟩ := hB
  have hb : b < σ.nx := hw.lt (by rw [h1]; decide)
  have hr : r < σ.nx := hw.lt (by rw [h4]; decide)
  refine js_JStringBuilder_toString (d := d + 3) (js_JString_init_1 (d := d + 2) ?_)
  have tb : (σ.newO 12 4).tag b = 13 := hp_tag_newO (n := 4) hw h1 (by decide)
  have tr : (σ.newO 12 4).tag r = 21 := hp_tag_newO (n := 4) hw h4 (by decide)
  have tn : (σ.newO 12 4).tag σ.nx = 12 := hp_up_same _ _ _
  refine js_JString_init_0 (d := d + 1) tb h3 h2 tn hz ?_
  refine bd_range (d := d) (σ := (σ.newO 12 4).setI 82 σ.nx 0) tr hzr h5 (Nat.le_succ_of_le hz) (show (σ.newO 12 4).I 88 b = nI cs.length from h6) h7 hcap (fun σ1 f1 t1 l1 e1 n1 s1 => ?_)
  intro _
  have f0 := f1.2.2 σ.nx (Nat.lt_succ_self _) (fun q => q)
  refine gj_nextI (js_JString_init_0_35 (d := d + 1) (f0.1.trans tn) hz ?_)
  intro _
  refine gj_nextV (js_JString_init_1_6 (d := d + 2) ?_)
  intro _
  refine gj_nextV (js_JStringBuilder_toString_8 (d := d + 3) ?_)
  have n0 : ((σ.newO 12 4).setI 82 σ.nx 0).nx = σ.nx + 1 := rfl
  have s0 : ((σ.newO 12 4).setI 82 σ.nx 0).sl = σ.sl + 4 := rfl
  have f2 : Fx (fun a => a = σ.nx) σ1 (σ1.setA 81 σ.nx (some (σ.nx + 1))) := ⟨Nat.le_refl _, Nat.le_refl _, fun a _ hx => SameC.setA hx⟩
  rw [n0] at t1 l1 e1 n1
  rw [s0] at s1
  refine k _ ?_ ⟨f0.1.trans tn, ?_, σ.nx + 1, Hp.sA _ _ _ _, t1, l1, fun i hi => ?_⟩ (Hp.sA _ _ _ _) n1 s1
  · have g : Fx (fun _ => False) σ ((σ.newO 12 4).setI 82 σ.nx 0) := ⟨Nat.le_succ _, Nat.le_add_right _ _, fun a ha _ => (SameC.newO ha).trans (SameC.setI (by omega))⟩
    exact (g.trans (ex := fun _ => False) f1 (fun _ _ q => q) (fun _ _ q => q)).trans f2 (fun _ _ q => q) (fun a ha e => absurd e (by omega))
  · show σ1.I 82 σ.nx = 0
    exact (f0.2.2.1 82).1.trans (Hp.sI _ _ _ _)
  · show σ1.eI (σ.nx + 1) i = _
    rw [e1 i hi]
    exact h8 i hi
theorem l1_eq {r q : Nat} {xs ys : List Int32} (t1 : σ.tag r = 21) (t2 : σ.tag q = 21) (l1 : σ.len r = xs.length) (l2 : σ.len q = ys.length) (e1 : ∀ i, i < xs.length → σ.eI r i = xs.getD i 0) (e2 : ∀ i, i < ys.length → σ.eI q i = ys.getD i 0) (hx : xs.length ≤ 5000) (hy : ys.length ≤ 5000) (k : Q (.returned (some (.int (b2i (decide (xs = ys)))))) σ) : Go z l mt_JStringLatin1_equals (d + 9) 0 [.ref r, .ref q, .retAddr 0] [] σ Q := by
  have kn : ¬ xs = ys → Q (.returned (some (.int 0))) σ := fun h => by rw [decide_eq_false h] at k; exact k
  have ky : xs = ys → Q (.returned (some (.int 1))) σ := fun h => by rw [decide_eq_true h] at k; exact k
  refine js_JStringLatin1_equals t1 t2 (fun h => kn (fun e => h (by rw [l1, l2, e]))) (fun h => ?_)
  rw [l1, l2, nI_eq (by omega) (by omega)] at h
  have loop : ∀ (m i : Nat), i + m = xs.length → (∀ j, j < i → xs.getD j 0 = ys.getD j 0) → Go z l mt_JStringLatin1_equals (d + 9) 9 [.ref r, .ref q, .int (nI i)] [] σ Q := by
    intro m
    induction m with
    | zero =>
      intro i hi hj
      have e : nI (σ.len r) ≤ nI i := by rw [l1]; exact nI_le (by omega) (by omega)
      refine js_JStringLatin1_equals_9 t1 t2 (fun _ => ky (List.ext_getElem h (fun j a1 a2 => ?_))) (fun h => absurd e h) (fun h => absurd e h) (fun h => absurd e h) (fun h => absurd e h)
      have := hj j (by omega)
      simpa [List.getD, a1, a2] using this
    | succ m ih =>
      intro i hi hj
      have e : ¬ nI (σ.len r) ≤ nI i := by rw [l1]; exact nI_ge (by omega) (by omega)
      have ec : (nI i).toNatClampNeg = i := nI_clamp (by omega)
      refine js_JStringLatin1_equals_9 t1 t2 (fun h => absurd h e) (fun _ => by rw [l1]; exact vp_in_nI (by omega) (by omega)) (fun _ => by rw [l2]; exact vp_in_nI (by omega) (by omega)) (fun _ h2 => ?_) (fun _ h2 => kn (fun e => h2 ?_))
      · rw [ec, e1 i (by omega), e2 i (by omega)] at h2
        rw [nI_1]
        refine ih (i + 1) (by omega) (fun j hj2 => ?_)
        by_cases hji : j = i
        · rw [hji]; exact h2
        · exact hj j (by omega)
      · rw [ec, e1 i (by omega), e2 i (by omega), e]
  exact loop xs.length 0 (Nat.zero_add _) (fun j hj => absurd hj (Nat.not_lt_zero _))
theorem str_eq {a b : Nat} {xs ys : List Int32} (hA : Str σ a xs) (hB : Str σ b ys) (hx : xs.length ≤ 5000) (hy : ys.length ≤ 5000) (k : Q (.returned (some (.int (b2i (decide (xs = ys)))))) σ) : Go z l mt_JString_equals (d + 10) 0 [.ref a, .ref b, .retAddr 0] [] σ Q := by
  obtain ⟨h1, h2, r, h3, h4, h5, h6⟩ := hA
  obtain ⟨g1, g2, q, g3, g4, g5, g6⟩ := hB
  refine js_JString_equals (d := d + 1) g1 h1 h2 g2 h3 g3 (fun _ => ?_) (fun e => ?_)
  · refine l1_eq (d := d) h4 g4 h5 g5 h6 g6 hx hy (fun _ => gj_nextI ?_)
    by_cases e : xs = ys
    · rw [decide_eq_true e] at k ⊢
      exact js_JString_equals_47 (d := d + 1) (fun h => absurd h (by decide)) (fun _ => k)
    · rw [decide_eq_false e] at k ⊢
      exact js_JString_equals_47 (d := d + 1) (fun _ => k) (fun h => absurd rfl h)
  · have e' : a = b := Option.some.inj e
    subst e'
    have er : r = q := Option.some.inj (h3.symm.trans g3)
    subst er
    have : xs = ys := List.ext_getElem (h5.symm.trans g5) (fun j a1 a2 => by
      have := (h6 j a1).symm.trans (g6 j a2)
      simpa [List.getD, a1, a2] using this)
    rw [decide_eq_true this] at k
    exact k
end Strs
