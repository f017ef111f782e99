/-! ===== a node stands for a meaning: the checking ===== -/
/-- the same, but for the kind that the checking writes -/
def SameX (σ σ' : Hp) (a : Nat) : Prop := σ'.tag a = σ.tag a ∧ σ'.len a = σ.len a ∧ (∀ f, (f ≠ 69 → σ'.I f a = σ.I f a) ∧ σ'.J f a = σ.J f a ∧ σ'.A f a = σ.A f a) ∧ σ'.eI a = σ.eI a ∧ σ'.eJ a = σ.eJ a ∧ σ'.eA a = σ.eA a
theorem SameX.rfl' (σ : Hp) (a : Nat) : SameX σ σ a := ⟨rfl, rfl, fun _ => ⟨fun _ => rfl, rfl, rfl⟩, rfl, rfl, rfl⟩
theorem SameX.trans {σ σ1 σ2 : Hp} {a : Nat} (h : SameX σ σ1 a) (g : SameX σ1 σ2 a) : SameX σ σ2 a :=
  ⟨g.1.trans h.1, g.2.1.trans h.2.1, fun f => ⟨fun q => ((g.2.2.1 f).1 q).trans ((h.2.2.1 f).1 q), (g.2.2.1 f).2.1.trans (h.2.2.1 f).2.1, (g.2.2.1 f).2.2.trans (h.2.2.1 f).2.2⟩, g.2.2.2.1.trans h.2.2.2.1, g.2.2.2.2.1.trans h.2.2.2.2.1, g.2.2.2.2.2.trans h.2.2.2.2.2⟩
theorem SameC.sx {σ σ' : Hp} {a : Nat} (h : SameC σ σ' a) : SameX σ σ' a := ⟨h.1, h.2.1, fun f => ⟨fun _ => (h.2.2.1 f).1, (h.2.2.1 f).2.1, (h.2.2.1 f).2.2⟩, h.2.2.2.1, h.2.2.2.2.1, h.2.2.2.2.2⟩
/-- the cells of a node made in nlo .. nhi - 1, but for hl .. hh - 1 -/
abbrev Rg (nlo nhi hl hh a : Nat) : Prop := nlo ≤ a ∧ a < nhi ∧ ¬ (hl ≤ a ∧ a < hh)
/-- what it rests on; lo: where the reading began -/
def Dp (lo nlo nhi hl hh : Nat) (σ : Hp) (a : Nat) : Prop := Rg nlo nhi hl hh a ∨ (lo ≤ a ∧ a < nhi ∧ (σ.tag a = 10 ∨ σ.tag a = 12 ∨ σ.tag a = 21))
def Ag (lo nlo nhi hl hh : Nat) (σ σ' : Hp) : Prop := ∀ a, Dp lo nlo nhi hl hh σ a → SameX σ σ' a
/-- one stretch within another -/
abbrev Sb (nlo nhi hl hh u v cl ch : Nat) : Prop := v ≤ nhi ∧ ∀ a, Rg u v cl ch a → Rg nlo nhi hl hh a
theorem Dp.mv {lo nlo nhi hl hh : Nat} {σ σ' : Hp} {a : Nat} (h : Ag lo nlo nhi hl hh σ σ') (q : Dp lo nlo nhi hl hh σ a) : Dp lo nlo nhi hl hh σ' a := q.imp id (fun r => ⟨r.1, r.2.1, by rw [(h a q).1]; exact r.2.2⟩)
theorem Dp.sub {lo nlo nhi hl hh u v cl ch : Nat} {σ : Hp} {a : Nat} (h : Sb nlo nhi hl hh u v cl ch) (q : Dp lo u v cl ch σ a) : Dp lo nlo nhi hl hh σ a := q.imp (h.2 a) (fun r => ⟨r.1, by have := h.1; omega, r.2.2⟩)
theorem Ag.rfl' (lo nlo nhi hl hh : Nat) (σ : Hp) : Ag lo nlo nhi hl hh σ σ := fun a _ => SameX.rfl' σ a
theorem Ag.trans {lo nlo nhi hl hh : Nat} {σ σ1 σ2 : Hp} (h : Ag lo nlo nhi hl hh σ σ1) (g : Ag lo nlo nhi hl hh σ1 σ2) : Ag lo nlo nhi hl hh σ σ2 := fun a q => (h a q).trans (g a (Dp.mv h q))
theorem Ag.sub {lo nlo nhi hl hh u v cl ch : Nat} {σ σ' : Hp} (h : Ag lo nlo nhi hl hh σ σ') (hs : Sb nlo nhi hl hh u v cl ch) : Ag lo u v cl ch σ σ' := fun a q => h a (Dp.sub hs q)
/-- only kinds of the nodes there have changed -/
def Ck (nlo nhi hl hh : Nat) (σ σ' : Hp) : Prop := σ'.tag = σ.tag ∧ σ'.len = σ.len ∧ σ'.J = σ.J ∧ σ'.A = σ.A ∧ σ'.eI = σ.eI ∧ σ'.eJ = σ.eJ ∧ σ'.eA = σ.eA ∧ σ'.nx = σ.nx ∧ σ'.sl = σ.sl ∧ ∀ f a, ¬ (f = 69 ∧ Rg nlo nhi hl hh a) → σ'.I f a = σ.I f a
theorem Ck.rfl' (nlo nhi hl hh : Nat) (σ : Hp) : Ck nlo nhi hl hh σ σ := ⟨rfl, rfl, rfl, rfl, rfl, rfl, rfl, rfl, rfl, fun _ _ _ => rfl⟩
theorem Ck.trans {nlo nhi hl hh : Nat} {σ σ1 σ2 : Hp} (h : Ck nlo nhi hl hh σ σ1) (g : Ck nlo nhi hl hh σ1 σ2) : Ck nlo nhi hl hh σ σ2 := by
  obtain ⟨a1, a2, a3, a4, a5, a6, a7, a8, a9, a10⟩ := h
  obtain ⟨b1, b2, b3, b4, b5, b6, b7, b8, b9, b10⟩ := g
  exact ⟨b1.trans a1, b2.trans a2, b3.trans a3, b4.trans a4, b5.trans a5, b6.trans a6, b7.trans a7, b8.trans a8, b9.trans a9, fun f a q => (b10 f a q).trans (a10 f a q)⟩
theorem Ck.wide {nlo nhi hl hh u v cl ch : Nat} {σ σ' : Hp} (h : Ck u v cl ch σ σ') (hs : Sb nlo nhi hl hh u v cl ch) : Ck nlo nhi hl hh σ σ' := by
  obtain ⟨a1, a2, a3, a4, a5, a6, a7, a8, a9, a10⟩ := h
  exact ⟨a1, a2, a3, a4, a5, a6, a7, a8, a9, fun f a q => a10 f a (fun r => q ⟨r.1, hs.2 a r.2⟩)⟩
theorem Ck.set {nlo nhi hl hh n : Nat} {σ : Hp} {v : Int32} (h1 : Rg nlo nhi hl hh n) : Ck nlo nhi hl hh σ (σ.setI 69 n v) := ⟨rfl, rfl, rfl, rfl, rfl, rfl, rfl, rfl, rfl, fun f a q => by
  show up2 σ.I 69 n v f a = _
  by_cases e : a = n
  · exact up2_nf _ _ (fun e9 => q ⟨e9, by rw [e]; exact h1⟩)
  · exact up2_ne _ _ e⟩
theorem Ck.sx {nlo nhi hl hh : Nat} {σ σ' : Hp} (h : Ck nlo nhi hl hh σ σ') (a : Nat) : SameX σ σ' a := by
  obtain ⟨a1, a2, a3, a4, a5, a6, a7, a8, a9, a10⟩ := h
  exact ⟨by rw [a1], by rw [a2], fun f => ⟨fun q => a10 f a (fun r => q r.1), by rw [a3], by rw [a4]⟩, by rw [a5], by rw [a6], by rw [a7]⟩
theorem Ck.sc {nlo nhi hl hh : Nat} {σ σ' : Hp} (h : Ck nlo nhi hl hh σ σ') {a : Nat} (q : a < nlo ∨ nhi ≤ a) : SameC σ σ' a := by
  obtain ⟨a1, a2, a3, a4, a5, a6, a7, a8, a9, a10⟩ := h
  exact ⟨by rw [a1], by rw [a2], fun f => ⟨a10 f a (fun r => by have := r.2.1; have := r.2.2.1; omega), by rw [a3], by rw [a4]⟩, by rw [a5], by rw [a6], by rw [a7]⟩
theorem Ck.ag {lo nlo nhi hl hh u v cl ch : Nat} {σ σ' : Hp} (h : Ck nlo nhi hl hh σ σ') : Ag lo u v cl ch σ σ' := fun a _ => h.sx a
theorem CM.ck {z : State} {σ σ' : Hp} {am : Nat → Nat} {nlo nhi hl hh : Nat} (hc : CM z σ am) (h : Ck nlo nhi hl hh σ σ') : CM z σ' am := ⟨hc.1, fun i hi => by rw [h.1, h.2.1]; exact hc.2 i hi⟩
/-- what stands fast while the reference checks -/
def KM (z : State) (σ : Hp) (am : Nat → Nat) (w : Wd) (kn : Nat → Int32) : Prop := CM z σ am ∧ MLk w am ∧ MSt z σ ∧ (∃ v, σ.tag v = 10) ∧ ∀ r, r < 8 → w.eI 4 r = mty (kn r) ∧ k4 (kn r)
theorem KM.ck {z : State} {σ σ' : Hp} {am : Nat → Nat} {w : Wd} {kn : Nat → Int32} {nlo nhi hl hh : Nat} (h : KM z σ am w kn) (c : Ck nlo nhi hl hh σ σ') (hz : z.heap.size ≤ nlo) : KM z σ' am w kn := ⟨h.1.ck c, h.2.1, h.2.2.1.mv (fun b hb => c.sc (Or.inl (by omega))), by rw [c.1]; exact h.2.2.2.1, h.2.2.2.2⟩
/-- the node n, made in nlo .. nhi - 1, stands for m in the checking -/
def RNK (m : Ex) (lo nlo nhi hl hh : Nat) (σ0 : Hp) (am : Nat → Nat) (n h : Nat) : Prop := ∀ (z : State) (l : Launch) (d : Nat) (σ : Hp) (w : Wd) (kn : Nat → Int32) (Q : Outcome → Hp → Prop), KM z σ am w kn → z.heap.size ≤ nlo → Ag lo nlo nhi hl hh σ0 σ →
  ((m.1 kn).1 = 0 → k4 (m.1 kn).2 → ∀ σ', Ck nlo nhi hl hh σ σ' → σ'.I 69 n = mty (m.1 kn).2 → Q (.returned (some (.int (mty (m.1 kn).2)))) (ov σ' am 7 w)) →
  (¬ (m.1 kn).1 = 0 → ∀ σ', Ck nlo nhi hl hh σ σ' → Q (.threw (am 1)) (ov σ' am 7 (w.setI 1 79 (m.1 kn).1))) →
  Go z l mt_M_check (d + h + 20) 0 [.ref (am 0), .ref n, .retAddr 0] [] (ov σ am 7 w) Q
theorem RNK.mono {m : Ex} {lo nlo nhi hl hh h h' : Nat} {σ0 : Hp} {am : Nat → Nat} {n : Nat} (r : RNK m lo nlo nhi hl hh σ0 am n h) (hq : h ≤ h') : RNK m lo nlo nhi hl hh σ0 am n h' := fun z l d σ w kn Q K hz A k0 k1 => go_eq (by omega) (r z l (d + (h' - h)) σ w kn Q K hz A k0 k1)
theorem RNK.mv {m : Ex} {lo nlo nhi hl hh h : Nat} {σ0 σ1 : Hp} {am : Nat → Nat} {n : Nat} (r : RNK m lo nlo nhi hl hh σ0 am n h) (a : Ag lo nlo nhi hl hh σ0 σ1) : RNK m lo nlo nhi hl hh σ1 am n h := fun z l d σ w kn Q K hz A k0 k1 => r z l d σ w kn Q K hz (a.trans A) k0 k1
/-- the parts of a node, from the place u on -/
def PK (lo nlo nhi hl hh : Nat) (σ0 : Hp) (am : Nat → Nat) (h : Nat) : List (Ex × Nat) → Nat → Prop
  | [], _ => True
  | (m, x) :: r, u => ∃ a b cl ch, u ≤ a ∧ Rg a b cl ch x ∧ Sb nlo nhi hl hh a b cl ch ∧ σ0.tag x = 9 ∧ RNK m lo a b cl ch σ0 am x h ∧ PK lo nlo nhi hl hh σ0 am h r b
theorem ND.mvx {σ σ' : Hp} {n b cap : Nat} {op kd : Int32} {ps : List Nat} (h : ND σ n b op kd ps cap) (s1 : SameX σ σ' n) (s2 : SameX σ σ' b) : ND σ' n b op kd ps cap := by
  obtain ⟨h1, h2, h3, h4, h5, h6, h7, h8, h9⟩ := h
  exact ⟨s1.1.trans h1, ((s1.2.2.1 63).1 (by decide)).trans h2, ((s1.2.2.1 64).1 (by decide)).trans h3, (s1.2.2.1 67).2.2.trans h4, s2.1.trans h5, s2.2.1.trans h6, ((s1.2.2.1 68).1 (by decide)).trans h7, h8, fun i hi => by rw [s2.2.2.2.2.2]; exact h9 i hi⟩
theorem getD_snoc {α : Type} (ks : List α) (k x : α) (i : Nat) : (ks ++ [k]).getD i x = if i = ks.length then k else ks.getD i x := by
  by_cases e : i = ks.length
  · rw [if_pos e, e]; simp [List.getD]
  · rw [if_neg e]
    rcases Nat.lt_or_ge i ks.length with q | q
    · simp [List.getD, List.getElem?_append_left q]
    · simp [List.getD, List.getElem?_eq_none_iff.mpr q, List.getElem?_eq_none_iff.mpr (show (ks ++ [k]).length ≤ i by rw [List.length_append, List.length_singleton]; omega)]
section MCheck
variable {lo nlo nhi hl hh : Nat} {σ0 : Hp} {am : Nat → Nat} {n h b cap : Nat} {op kd : Int32} {ps : List Nat}
/-- the parts are checked one by one -/
theorem ck_parts {z : State} {l : Launch} {d : Nat} {w : Wd} {kn : Nat → Int32} {Q : Outcome → Hp → Prop} (hz : z.heap.size ≤ nlo) (hN : ND σ0 n b op kd ps cap) (hn : Rg nlo nhi hl hh n) (hb : Rg nlo nhi hl hh b) (hc9 : ps.length ≤ 100 ∧ cap ≤ 1000)
    : ∀ (rs : List (Ex × Nat)) (i : Nat) (σ : Hp) (ks : List Int32) (u : Nat), KM z σ am w kn → Ag lo nlo nhi hl hh σ0 σ → nlo ≤ u → PK lo nlo nhi hl hh σ0 am h rs u → ks.length = i → i + rs.length = ps.length → (∀ j, j < rs.length → ps.getD (i + j) 0 = (rs.getD j (ex_null, 0)).2) → (∀ j, j < i → ps.getD j 0 < u ∧ σ.tag (ps.getD j 0) = 9 ∧ σ.I 69 (ps.getD j 0) = mty (ks.getD j 0) ∧ k4 (ks.getD j 0)) →
      (¬ (ckl (rs.map Prod.fst) kn).1 = 0 → ∀ σ', Ck nlo nhi hl hh σ σ' → Q (.threw (am 1)) (ov σ' am 7 (w.setI 1 79 (ckl (rs.map Prod.fst) kn).1))) →
      ((ckl (rs.map Prod.fst) kn).1 = 0 → ∀ σ' v2, Ck nlo nhi hl hh σ σ' → NT σ' n b op kd ps cap (ks ++ (ckl (rs.map Prod.fst) kn).2) → Go z l mt_M_typeOf (d + h + 20) 0 [.ref (am 0), .ref n] [] (ov σ' am 7 w) (fun o σ1 => hp_Le (ov σ' am 7 w) σ1 → gj_next z l mt_M_check (d + h + 21) 30 [.ref (am 0), .ref n, .int v2] [.ref n] Q o σ1)) →
      Go z l mt_M_check (d + h + 21) 2 [.ref (am 0), .ref n, .int (nI i)] [] (ov σ am 7 w) Q := by
  intro rs
  induction rs with
  | nil =>
    intro i σ ks u K A hu P hk hi hps hdone kE kO
    have N1 := hN.mvx (A n (Or.inl hn)) (A b (Or.inl hb))
    have hi' : i = ps.length := hi
    have NT1 : NT σ n b op kd ps cap ks := ⟨N1, by omega, hc9, fun j hj => (hdone j (by omega)).2⟩
    have cc : σ.I 68 n ≤ nI i := (NT1.le (by omega)).mpr (by omega)
    obtain ⟨n1, n2, n3, n4, n5, n6, n7, n8, n9⟩ := N1
    refine cm_M_check_2 (d := d + h + 12) (b2 := b) (b6 := n) K.1 n1 n5 (fun _ => kO rfl σ _ (Ck.rfl' _ _ _ _ _) ?_) (fun q => absurd cc q) (fun q => absurd cc q) (fun q => absurd cc q) (fun q => absurd cc q)
    show NT σ n b op kd ps cap (ks ++ [])
    rw [List.append_nil]
    exact NT1
  | cons r rs ih =>
    obtain ⟨m, x⟩ := r
    intro i σ ks u K A hu P hk hi hps hdone kE kO
    obtain ⟨a, c, cl, ch, p1, p2, p4, p5, pR, pP⟩ := P
    have p20 := p2.1
    have p3 := p2.2.1
    have hi' : i + (rs.length + 1) = ps.length := hi
    have N1 := hN.mvx (A n (Or.inl hn)) (A b (Or.inl hb))
    obtain ⟨n1, n2, n3, n4, n5, n6, n7, n8, n9⟩ := id N1
    have cc : ¬ σ.I 68 n ≤ nI i := fun q => by
      rw [n7] at q
      exact absurd q (nI_ge (by omega) (by omega))
    have ei : (nI i).toNatClampNeg = i := nI_clamp (by omega)
    have ex : ps.getD i 0 = x := hps 0 (Nat.succ_pos _)
    have mapE : ((m, x) :: rs).map Prod.fst = m :: rs.map Prod.fst := rfl
    rw [mapE] at kE kO
    refine cm_M_check_2 (d := d + h + 12) (b2 := b) (b6 := x) K.1 n1 n5 (fun q => absurd q cc) (fun _ => n4) (fun _ => by rw [n6]; exact vp_in_nI (by omega) (by omega)) (fun _ => by rw [ei, ← ex]; exact n9 i (by omega)) (fun _ => ?_)
    refine pR z l d σ w kn _ K (by omega) (A.sub p4) (fun e0 q4 σ1 C1 t1 => fun _ => gj_nextI (cm_M_check_20 (d := d + h + 12) (K.1.ck C1) ?_)) (fun e0 σ1 C1 => fun _ => gj_nextT (go_out (fun _ h => nomatch h) ?_))
    · rw [nI_1]
      have C1' : Ck nlo nhi hl hh σ σ1 := C1.wide p4
      have e0' : ¬ ¬ (m.1 kn).1 = 0 := fun q => q e0
      have x9 : σ.tag x = 9 := ((A x (Or.inl (p4.2 x p2))).1).trans p5
      refine ih (i + 1) σ1 (ks ++ [(m.1 kn).2]) c (K.ck C1' hz) (A.trans C1'.ag) (by omega) pP (by rw [List.length_append, hk]; rfl) (by omega) (fun j hj => ?_) (fun j hj => ?_) (fun q σ' C' => ?_) (fun q σ' v2 C' NT' => ?_)
      · have := hps (j + 1) (Nat.succ_lt_succ hj)
        rw [show i + (j + 1) = i + 1 + j by omega] at this
        exact this
      · rw [getD_snoc, hk]
        rcases Nat.lt_or_ge j i with q | q
        · obtain ⟨d1, d2, d3, d4⟩ := hdone j q
          have s9 := C1.sc (a := ps.getD j 0) (Or.inl (by omega))
          rw [if_neg (by omega)]
          exact ⟨by omega, s9.1.trans d2, (s9.2.2.1 69).1.trans d3, d4⟩
        · obtain rfl : j = i := by omega
          rw [if_pos rfl, ex]
          exact ⟨p3, (C1.sx x).1.trans x9, t1, q4⟩
      · have e1 : (ckl (m :: rs.map Prod.fst) kn).1 = (ckl (rs.map Prod.fst) kn).1 := by
          rw [ckl, if_neg e0', if_pos q]
        rw [e1] at kE
        exact kE q σ' (C1'.trans C')
      · have e1 : ckl (m :: rs.map Prod.fst) kn = (0, (m.1 kn).2 :: (ckl (rs.map Prod.fst) kn).2) := by
          rw [ckl, if_neg e0', if_neg (fun r => r q)]
        rw [e1] at kO
        refine kO rfl σ' v2 (C1'.trans C') ?_
        rw [show ks ++ (m.1 kn).2 :: (ckl (rs.map Prod.fst) kn).2 = (ks ++ [(m.1 kn).2]) ++ (ckl (rs.map Prod.fst) kn).2 by rw [List.append_assoc]; rfl]
        exact NT'
    · have e1 : (ckl (m :: rs.map Prod.fst) kn).1 = (m.1 kn).1 := by
        rw [ckl, if_pos e0]
      rw [e1] at kE
      exact kE e0 σ1 (C1.wide p4)
/-- a node stands for m in the checking -/
theorem rnk_node {m : Ex} {rs : List (Ex × Nat)} {F : (Nat → Int32) → List Int32 → Int32 × Int32} (hN : ND σ0 n b op kd ps cap) (hn : Rg nlo nhi hl hh n) (hb : Rg nlo nhi hl hh b) (hc9 : ps.length ≤ 100 ∧ cap ≤ 1000) (hps : ps = rs.map Prod.snd) (hP : PK lo nlo nhi hl hh σ0 am h rs nlo)
    (hm : ∀ kn, (∀ r, r < 8 → k4 (kn r)) → (¬ (ckl (rs.map Prod.fst) kn).1 = 0 → (m.1 kn).1 = (ckl (rs.map Prod.fst) kn).1) ∧ ((ckl (rs.map Prod.fst) kn).1 = 0 → (m.1 kn).1 = (F kn (ckl (rs.map Prod.fst) kn).2).1 ∧ ((m.1 kn).1 = 0 → (m.1 kn).2 = (F kn (ckl (rs.map Prod.fst) kn).2).2)))
    (hT : ∀ (z : State) (l : Launch) (d : Nat) (σ : Hp) (w : Wd) (kn : Nat → Int32) (Q : Outcome → Hp → Prop) (ks : List Int32), KM z σ am w kn → z.heap.size ≤ nlo → Ag lo nlo nhi hl hh σ0 σ → NT σ n b op kd ps cap ks → (ckl (rs.map Prod.fst) kn) = (0, ks) → TyR z l d σ am w Q n (F kn ks)) : RNK m lo nlo nhi hl hh σ0 am n (h + 1) := by
  intro z l d σ w kn Q K hz A k0 k1
  obtain ⟨m1, m2⟩ := hm kn (fun r hr => (K.2.2.2.2 r hr).2)
  refine go_eq (show d + h + 21 = d + (h + 1) + 20 by omega) (cm_M_check (d := d + h + 12) K.1 ?_)
  refine ck_parts (lo := lo) (nlo := nlo) (nhi := nhi) (hl := hl) (hh := hh) (σ0 := σ0) (h := h) (kn := kn) hz hN hn hb hc9 rs 0 σ [] nlo K A (Nat.le_refl _) hP rfl (by rw [hps, List.length_map, Nat.zero_add]) (fun j hj => ?_) (fun j hj => absurd hj (Nat.not_lt_zero _)) (fun q σ' C' => ?_) (fun q σ' v2 C' NT' => ?_)
  · rw [Nat.zero_add, hps]
    simp [List.getD, hj]
  · have e := m1 q
    have k1' := k1 (by rw [e]; exact q) σ' C'
    rw [e] at k1'
    exact k1'
  · obtain ⟨e1, e2⟩ := m2 q
    have K' := K.ck C' hz
    have A' := A.trans (C'.ag (lo := lo) (u := nlo) (v := nhi) (cl := hl) (ch := hh))
    rw [List.nil_append] at NT'
    have ek : ckl (rs.map Prod.fst) kn = (0, (ckl (rs.map Prod.fst) kn).2) := Prod.ext q rfl
    refine go_eq (show d + h + 7 + 13 = d + h + 20 by omega) (hT z l (d + h + 7) σ' w kn _ _ K' hz A' NT' ek (fun r0 r4 => ?_) (fun r0 => ?_))
    · have z0 : (m.1 kn).1 = 0 := by rw [e1]; exact r0
      have e3 := e2 z0
      intro _
      refine gj_nextI (cm_M_check_33 (d := d + h + 12) K'.1 NT'.1.1 (by have := hn.1; omega) NT'.1.1 ?_)
      rw [← e3] at r4 ⊢
      have C2 : Ck nlo nhi hl hh σ (σ'.setI 69 n (mty (m.1 kn).2)) := C'.trans (Ck.set hn)
      have t9 : (σ'.setI 69 n (mty (m.1 kn).2)).I 69 n = mty (m.1 kn).2 := Hp.sI _ _ _ _
      rw [t9]
      exact k0 z0 r4 _ C2 t9
    · have z0 : ¬ (m.1 kn).1 = 0 := by rw [e1]; exact r0
      intro _
      refine gj_nextT (go_out (fun _ h => nomatch h) ?_)
      have k1' := k1 z0 σ' C'
      rw [e1] at k1'
      exact k1'
end MCheck
