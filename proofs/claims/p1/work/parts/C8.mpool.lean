/-! ===== the reference's pool of values ===== -/
/-- the pool: its array, places, values made, values in use, the values, their texts -/
abbrev Po : Type := Nat × Nat × Nat × Nat × (Nat → Nat) × (Nat → Nat)
def Po.pa (q : Po) : Nat := q.1
def Po.P (q : Po) : Nat := q.2.1
def Po.hw (q : Po) : Nat := q.2.2.1
def Po.k (q : Po) : Nat := q.2.2.2.1
def Po.pv (q : Po) : Nat → Nat := q.2.2.2.2.1
def Po.pt (q : Po) : Nat → Nat := q.2.2.2.2.2
def PV (z : State) (σ : Hp) (am : Nat → Nat) (v t : Nat) : Prop := σ.tag v = 10 ∧ σ.A 73 v = some t ∧ σ.tag t = 21 ∧ mx am t ∧ σ.len t = 40 ∧ z.heap.size ≤ v ∧ z.heap.size ≤ t
def PoolOK (z : State) (σ : Hp) (am : Nat → Nat) (w : Wd) (q : Po) : Prop :=
  w.A 0 40 = some q.pa ∧ σ.tag q.pa = 27 ∧ mx am q.pa ∧ z.heap.size ≤ q.pa ∧ σ.len q.pa = q.P ∧ w.I 0 41 = nI q.k ∧ q.k ≤ q.hw ∧ q.hw ≤ q.P ∧ q.hw ≤ 4000 ∧ q.P ≤ 8000 ∧ 1 ≤ q.P
  ∧ (∀ i, i < q.hw → σ.eA q.pa i = some (q.pv i) ∧ PV z σ am (q.pv i) (q.pt i)) ∧ (∀ i, q.hw ≤ i → i < q.P → σ.eA q.pa i = none)
  ∧ (∀ i j, i < q.hw → j < q.hw → q.pv i = q.pv j ∨ q.pt i = q.pt j → i = j)
/-- what no new value takes -/
def Fr (σ : Hp) (am : Nat → Nat) (q : Po) (a : Nat) : Prop := a < σ.nx ∧ mx am a ∧ a ≠ q.pa ∧ ∀ i, q.k ≤ i → i < q.hw → a ≠ q.pv i ∧ a ≠ q.pt i
/-- what has become of the pool -/
def PXt (σ : Hp) (q q' : Po) : Prop := (q'.pa = q.pa ∨ σ.nx ≤ q'.pa) ∧ ∀ i, i < q'.hw → (i < q.hw ∧ q'.pv i = q.pv i ∧ q'.pt i = q.pt i) ∨ (σ.nx ≤ q'.pv i ∧ σ.nx ≤ q'.pt i)
/-- from one state of the working to a later one -/
def EvF (am : Nat → Nat) (σ : Hp) (q : Po) (σ' : Hp) (q' : Po) (kv : Nat) : Prop := (∀ a, Fr σ am q a → Fr σ' am q' a ∧ SameC σ σ' a) ∧ q.k ≤ q'.k ∧ q'.k ≤ q.k + kv ∧ σ'.nx + 2 * q.hw + q.P ≤ σ.nx + 2 * q'.hw + q'.P ∧ σ'.sl + 44 * q.hw + 2 * q.P ≤ σ.sl + 44 * q'.hw + 2 * q'.P ∧ q.hw ≤ q'.hw ∧ q.P ≤ q'.P ∧ (σ.nx ≤ σ'.nx ∧ PXt σ q q')
/-- what of the world the working changes -/
def WE (w w' : Wd) : Prop := (∀ i f, ¬ (i = 0 ∧ f = 41) → w'.I i f = w.I i f) ∧ w'.J = w.J ∧ (∀ i f, ¬ (i = 0 ∧ f = 40) → w'.A i f = w.A i f) ∧ (∀ i, i ≠ 5 → w'.eI i = w.eI i) ∧ w'.eJ = w.eJ ∧ w'.eA = w.eA
theorem EvF.rfl' (am : Nat → Nat) (σ : Hp) (q : Po) : EvF am σ q σ q 0 := ⟨fun a h => ⟨h, SameC.rfl' σ a⟩, Nat.le_refl _, Nat.le_refl _, Nat.le_refl _, Nat.le_refl _, Nat.le_refl _, Nat.le_refl _, Nat.le_refl _, Or.inl rfl, fun _ hi => Or.inl ⟨hi, rfl, rfl⟩⟩
theorem EvF.trans {am : Nat → Nat} {σ σ1 σ2 : Hp} {q q1 q2 : Po} {a b c : Nat} (h : EvF am σ q σ1 q1 a) (g : EvF am σ1 q1 σ2 q2 b) (hc : a + b ≤ c) : EvF am σ q σ2 q2 c := by
  obtain ⟨a1, a2, a3, a4, a5, a6, a7, a8⟩ := h
  obtain ⟨b1, b2, b3, b4, b5, b6, b7, b8⟩ := g
  exact ⟨fun x hx => ⟨(b1 x (a1 x hx).1).1, (a1 x hx).2.trans (b1 x (a1 x hx).1).2⟩, by omega, by omega, by omega, by omega, by omega, by omega, Nat.le_trans a8.1 b8.1, b8.2.1.elim (fun e => a8.2.1.imp (fun r => e.trans r) (fun r => by rw [e]; exact r)) (fun e => Or.inr (Nat.le_trans a8.1 e)), fun i hi => (b8.2.2 i hi).elim (fun e => (a8.2.2 i e.1).imp (fun r => ⟨r.1, e.2.1.trans r.2.1, e.2.2.trans r.2.2⟩) (fun r => by rw [e.2.1, e.2.2]; exact r)) (fun e => Or.inr ⟨Nat.le_trans a8.1 e.1, Nat.le_trans a8.1 e.2⟩)⟩
theorem EvF.mono {am : Nat → Nat} {σ σ1 : Hp} {q q1 : Po} {a c : Nat} (h : EvF am σ q σ1 q1 a) (hc : a ≤ c) : EvF am σ q σ1 q1 c := h.trans (EvF.rfl' am σ1 q1) (by omega)
theorem WE.rfl' (w : Wd) : WE w w := ⟨fun _ _ _ => rfl, rfl, fun _ _ _ => rfl, fun _ _ => rfl, rfl, rfl⟩
theorem WE.trans {w w1 w2 : Wd} (h : WE w w1) (g : WE w1 w2) : WE w w2 := ⟨fun i f q => (g.1 i f q).trans (h.1 i f q), g.2.1.trans h.2.1, fun i f q => (g.2.2.1 i f q).trans (h.2.2.1 i f q), fun i q => (g.2.2.2.1 i q).trans (h.2.2.2.1 i q), g.2.2.2.2.1.trans h.2.2.2.2.1, g.2.2.2.2.2.trans h.2.2.2.2.2⟩
theorem MLk.we {w w' : Wd} {am : Nat → Nat} (h : MLk w am) (e : WE w w') : MLk w' am := fun q hq => (e.2.2.1 q.1 q.2.1 (fun r => by
  have := (show ∀ q ∈ mn_tab, ¬ (q.1 = 0 ∧ q.2.1 = 40) by decide) q hq
  exact this r)).trans (h q hq)
/-- a value that no new value takes -/
def VF (σ : Hp) (am : Nat → Nat) (q : Po) (v : Nat) (x : Va) : Prop := VM σ am v x ∧ Fr σ am q v ∧ ∀ t, σ.A 73 v = some t → Fr σ am q t
theorem VM.mv {σ σ' : Hp} {am : Nat → Nat} {v : Nat} {x : Va} (h : VM σ am v x) (s1 : SameC σ σ' v) (s2 : ∀ t, σ.A 73 v = some t → SameC σ σ' t) : VM σ' am v x := by
  obtain ⟨h1, h2, h3, m, hm, h4, t, h5, h6, h7, h8, h9⟩ := h
  have st := s2 t h5
  exact ⟨s1.1.trans h1, (s1.2.2.1 70).1.trans h2, fun e => (s1.2.2.1 71).2.1.trans (h3 e), m, hm, (s1.2.2.1 72).1.trans h4, t, (s1.2.2.1 73).2.2.trans h5, st.1.trans h6, h7, st.2.1.trans h8, fun e => ⟨(h9 e).1, fun i hi => by rw [st.2.2.2.1]; exact (h9 e).2 i hi⟩⟩
theorem VF.mv {am : Nat → Nat} {σ σ' : Hp} {q q' : Po} {kv v : Nat} {x : Va} (h : VF σ am q v x) (f : EvF am σ q σ' q' kv) : VF σ' am q' v x :=
  ⟨h.1.mv (f.1 v h.2.1).2 (fun t ht => (f.1 t (h.2.2 t ht)).2), (f.1 v h.2.1).1, fun t ht => (f.1 t (h.2.2 t (((f.1 v h.2.1).2.2.2.1 73).2.2.symm.trans ht))).1⟩
/-- what stands fast while the reference works out -/
def EM (z : State) (σ : Hp) (am : Nat → Nat) (w : Wd) (R : Nat → Va) (q : Po) : Prop := CM z σ am ∧ MLk w am ∧ MSt z σ ∧ PoolOK z σ am w q ∧ (∀ r, r < 8 → ∃ v, w.eA 3 r = some v ∧ VF σ am q v (R r)) ∧ z.heap.size ≤ σ.nx
/-- the node n stands for m in the working out -/
def RNE (m : Ex) (lo nlo nhi hl hh : Nat) (σ0 : Hp) (am : Nat → Nat) (n h kv : Nat) : Prop := ∀ (z : State) (l : Launch) (d : Nat) (σ : Hp) (w : Wd) (kn : Nat → Int32) (R : Nat → Va) (q : Po) (Q : Outcome → Hp → Prop), EM z σ am w R q → Ag lo nlo nhi hl hh σ0 σ → (∀ a, Dp lo nlo nhi hl hh σ0 a → Fr σ am q a) → rg_ok kn R → (m.1 kn).1 = 0 → q.k + kv ≤ 4000 →
  ((m.2.1 R).1 = 0 → ∀ σ' w' q' v, EM z σ' am w' R q' → EvF am σ q σ' q' kv → WE w w' → VF σ' am q' v (m.2.1 R).2 → Q (.returned (some (.ref v))) (ov σ' am 7 w')) →
  (¬ (m.2.1 R).1 = 0 → ∀ σ' w' q', EM z σ' am w' R q' → EvF am σ q σ' q' kv → WE w w' → Q (.threw (am 1)) (ov σ' am 7 (w'.setI 1 79 (m.2.1 R).1))) →
  Go z l mt_M_eval (d + 2 * h + 20) 0 [.ref (am 0), .ref n, .retAddr 0, .retAddr 0, .retAddr 0, .retAddr 0, .retAddr 0] [] (ov σ am 7 w) Q
theorem RNE.mono {m : Ex} {lo nlo nhi hl hh h h' kv kv' : Nat} {σ0 : Hp} {am : Nat → Nat} {n : Nat} (r : RNE m lo nlo nhi hl hh σ0 am n h kv) (hq : h ≤ h') (hk : kv ≤ kv') : RNE m lo nlo nhi hl hh σ0 am n h' kv' := fun z l d σ w kn R q Q E A F g c b k0 k1 => go_eq (by omega) (r z l (d + 2 * (h' - h)) σ w kn R q Q E A F g c (by omega) (fun e σ' w' q' v a1 a2 a3 a4 => k0 e σ' w' q' v a1 (a2.mono hk) a3 a4) (fun e σ' w' q' a1 a2 a3 => k1 e σ' w' q' a1 (a2.mono hk) a3))
theorem RNE.mv {m : Ex} {lo nlo nhi hl hh h kv : Nat} {σ0 σ1 : Hp} {am : Nat → Nat} {n : Nat} (r : RNE m lo nlo nhi hl hh σ0 am n h kv) (a : Ag lo nlo nhi hl hh σ0 σ1) : RNE m lo nlo nhi hl hh σ1 am n h kv := fun z l d σ w kn R q Q E A F g c b k0 k1 => r z l d σ w kn R q Q E (a.trans A) (fun x hx => F x (Dp.mv a hx)) g c b k0 k1
theorem MSt.fr {z : State} {σ σ' : Hp} {am : Nat → Nat} {q q' : Po} {kv : Nat} (h : MSt z σ) (hc : CM z σ am) (f : EvF am σ q σ' q' kv) (hp : ∀ a, a < z.heap.size → Fr σ am q a) : MSt z σ' := h.mv (fun b hb => (f.1 b (hp b hb)).2)
theorem EM.old {z : State} {σ : Hp} {am : Nat → Nat} {w : Wd} {R : Nat → Va} {q : Po} (h : EM z σ am w R q) {a : Nat} (ha : a < z.heap.size) : Fr σ am q a := by
  obtain ⟨h1, h2, h3, h4, h5, h6⟩ := h
  obtain ⟨p1, p2, p3, p4, p5, p6, p7, p8, p9, p10, p11, p12, p13, p14⟩ := h4
  exact ⟨by omega, h1.old ha, by omega, fun i _ hi => by
    obtain ⟨-, -, -, -, -, -, v1, v2⟩ := p12 i hi
    constructor <;> omega⟩
/-- the state behind a piece of the working -/
theorem EM.mv {z : State} {σ σ' : Hp} {am : Nat → Nat} {w w' : Wd} {R : Nat → Va} {q q' : Po} {kv : Nat} (h : EM z σ am w R q) (hc : CM z σ' am) (hP : PoolOK z σ' am w' q') (f : EvF am σ q σ' q' kv) (hw : WE w w') : EM z σ' am w' R q' := by
  obtain ⟨h1, h2, h3, h4, h5, h6⟩ := id h
  refine ⟨hc, h2.we hw, h3.mv (fun b hb => (f.1 b (h.old hb)).2), hP, fun r hr => ?_, by have := f.2.2.2.2.2.2.2.1; omega⟩
  obtain ⟨v, hv, hV⟩ := h5 r hr
  exact ⟨v, by rw [hw.2.2.2.2.2]; exact hv, hV.mv f⟩
