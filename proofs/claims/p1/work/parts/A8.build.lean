/-! ===== builders ===== -/
def SameC (σ σ' : Hp) (a : Nat) : Prop := σ'.tag a = σ.tag a ∧ σ'.len a = σ.len a ∧ (∀ f, σ'.I f a = σ.I f a ∧ σ'.J f a = σ.J f a ∧ σ'.A f a = σ.A f a) ∧ σ'.eI a = σ.eI a ∧ σ'.eJ a = σ.eJ a ∧ σ'.eA a = σ.eA a
theorem SameC.rfl' (σ : Hp) (a : Nat) : SameC σ σ a := ⟨rfl, rfl, fun _ => ⟨rfl, rfl, rfl⟩, rfl, rfl, rfl⟩
theorem SameC.trans {σ σ1 σ2 : Hp} {a : Nat} (h : SameC σ σ1 a) (g : SameC σ1 σ2 a) : SameC σ σ2 a :=
  ⟨g.1.trans h.1, g.2.1.trans h.2.1, fun f => ⟨(g.2.2.1 f).1.trans (h.2.2.1 f).1, (g.2.2.1 f).2.1.trans (h.2.2.1 f).2.1, (g.2.2.1 f).2.2.trans (h.2.2.1 f).2.2⟩, g.2.2.2.1.trans h.2.2.2.1, g.2.2.2.2.1.trans h.2.2.2.2.1, g.2.2.2.2.2.trans h.2.2.2.2.2⟩
theorem SameC.setI {σ : Hp} {a b f : Nat} {v : Int32} (h : a ≠ b) : SameC σ (σ.setI f b v) a := ⟨rfl, rfl, fun g => ⟨up2_ne _ _ h, rfl, rfl⟩, rfl, rfl, rfl⟩
theorem SameC.setJ {σ : Hp} {a b f : Nat} {v : Int64} (h : a ≠ b) : SameC σ (σ.setJ f b v) a := ⟨rfl, rfl, fun g => ⟨rfl, up2_ne _ _ h, rfl⟩, rfl, rfl, rfl⟩
theorem SameC.setA {σ : Hp} {a b f : Nat} {v : Option Nat} (h : a ≠ b) : SameC σ (σ.setA f b v) a := ⟨rfl, rfl, fun g => ⟨rfl, rfl, up2_ne _ _ h⟩, rfl, rfl, rfl⟩
theorem SameC.rowI {σ : Hp} {a b : Nat} {v : Nat → Int32} (h : a ≠ b) : SameC σ (σ.rowI b v) a := ⟨rfl, rfl, fun g => ⟨rfl, rfl, rfl⟩, hp_up_ne _ _ h, rfl, rfl⟩
theorem SameC.rowA {σ : Hp} {a b : Nat} {v : Nat → Option Nat} (h : a ≠ b) : SameC σ (σ.rowA b v) a := ⟨rfl, rfl, fun g => ⟨rfl, rfl, rfl⟩, rfl, rfl, hp_up_ne _ _ h⟩
theorem SameC.newO {σ : Hp} {a t n : Nat} (h : a < σ.nx) : SameC σ (σ.newO t n) a := ⟨hp_up_ne _ _ (by omega), rfl, fun g => ⟨rfl, rfl, rfl⟩, rfl, rfl, rfl⟩
theorem SameC.newA {σ : Hp} {a t n : Nat} (h : a < σ.nx) : SameC σ (σ.newA t n) a := ⟨hp_up_ne _ _ (by omega), hp_up_ne _ _ (by omega), fun g => ⟨rfl, rfl, rfl⟩, rfl, rfl, rfl⟩
/-- what was there is as it was, but for ex -/
def Fx (ex : Nat → Prop) (σ σ' : Hp) : Prop := σ.nx ≤ σ'.nx ∧ σ.sl ≤ σ'.sl ∧ ∀ a, a < σ.nx → ¬ ex a → SameC σ σ' a
theorem Fx.rfl' (ex : Nat → Prop) (σ : Hp) : Fx ex σ σ := ⟨Nat.le_refl _, Nat.le_refl _, fun a _ _ => SameC.rfl' σ a⟩
theorem Fx.trans {ex ex1 ex2 : Nat → Prop} {σ σ1 σ2 : Hp} (h : Fx ex1 σ σ1) (g : Fx ex2 σ1 σ2) (e1 : ∀ a, a < σ.nx → ex1 a → ex a) (e2 : ∀ a, a < σ.nx → ex2 a → ex a) : Fx ex σ σ2 :=
  ⟨Nat.le_trans h.1 g.1, Nat.le_trans h.2.1 g.2.1, fun a ha hx => (h.2.2 a ha (fun q => hx (e1 a ha q))).trans (g.2.2 a (Nat.lt_of_lt_of_le ha h.1) (fun q => hx (e2 a ha q)))⟩
theorem Fx.mono {ex ex1 : Nat → Prop} {σ σ1 : Hp} (h : Fx ex1 σ σ1) (e1 : ∀ a, a < σ.nx → ex1 a → ex a) : Fx ex σ σ1 := ⟨h.1, h.2.1, fun a ha hx => h.2.2 a ha (fun q => hx (e1 a ha q))⟩
/-- the builder b over the array r of cap places holds the characters cs -/
def Bld (σ : Hp) (b r : Nat) (cs : List Int32) (cap : Nat) : Prop := σ.tag b = 13 ∧ σ.I 86 b = 0 ∧ σ.A 85 b = some r ∧ σ.tag r = 21 ∧ σ.len r = cap ∧ σ.I 88 b = nI cs.length ∧ cs.length ≤ cap ∧ ∀ i, i < cs.length → σ.eI r i = cs.getD i 0
theorem Hp.sI (σ : Hp) (f a : Nat) (v : Int32) : (σ.setI f a v).I f a = v := up2_same σ.I f a v
theorem Hp.sJ (σ : Hp) (f a : Nat) (v : Int64) : (σ.setJ f a v).J f a = v := up2_same σ.J f a v
theorem Hp.sA (σ : Hp) (f a : Nat) (v : Option Nat) : (σ.setA f a v).A f a = v := up2_same σ.A f a v
theorem Hp.rI (σ : Hp) (a : Nat) (v : Nat → Int32) : (σ.rowI a v).eI a = v := hp_up_same σ.eI a v
theorem Hp.rA (σ : Hp) (a : Nat) (v : Nat → Option Nat) : (σ.rowA a v).eA a = v := hp_up_same σ.eA a v
theorem Hp.sI_nf (σ : Hp) {f g : Nat} (a b : Nat) (v : Int32) (h : g ≠ f) : (σ.setI f a v).I g b = σ.I g b := up2_nf _ _ h
theorem Hp.sA_nf (σ : Hp) {f g : Nat} (a b : Nat) (v : Option Nat) (h : g ≠ f) : (σ.setA f a v).A g b = σ.A g b := up2_nf _ _ h
theorem shl0 (x : Int32) : x <<< ((0 : Int32) &&& 31) = x := by
  rw [show ((0 : Int32) &&& 31) = 0 by decide]
  simp
theorem cl_0 : (0 : Int32).toNatClampNeg = 0 := by decide
section Builders
variable {z : State} {l : Launch} {d : Nat} {σ : Hp} {Q : Outcome → Hp → Prop}
theorem bd_init {b : Nat} (ht : σ.tag b = 13) (hz : z.heap.size ≤ b) (h0 : σ.I 88 b = 0) (k : ∀ σ', Fx (fun a => a = b) σ σ' → Bld σ' b σ.nx [] 16 → σ'.nx = σ.nx + 1 → σ'.sl = σ.sl + 16 → Q (.returned none) σ') : Go z l mt_JStringBuilder_init (d + 9) 0 [.ref b] [] σ Q := by
  refine go_wf fun hw => ?_
  have hb : b < σ.nx := hw.lt (by rw [ht]; decide)
  refine js_JStringBuilder_init ht hz (k _ ⟨Nat.le_succ _, Nat.le_add_right _ _, fun a ha hx => ((SameC.newA ha).trans (SameC.setA hx)).trans (SameC.setI hx)⟩ ⟨hp_tag_newA (n := 16) hw ht (by decide), Hp.sI _ _ _ _, Hp.sA _ _ _ _, hp_up_same _ _ _, hp_up_same _ _ _, ?_, Nat.zero_le _, fun i hi => absurd hi (Nat.not_lt_zero _)⟩ rfl rfl)
  show up2 σ.I 86 b 0 88 b = 0
  rw [up2_nf _ _ (by decide)]
  exact h0
/-- the places behind a growth -/
def bd_grow (q cap : Nat) : Nat := if q - cap < cap + 2 then cap + (cap + 2) else cap + (q - cap)
theorem bd_grow_ge {q cap : Nat} (h : cap < q) : q ≤ bd_grow q cap ∧ cap < bd_grow q cap ∧ (bd_grow q cap ≤ 2 * q + 2) ∧ (q = cap + 1 → bd_grow q cap = 2 * cap + 2) := by
  unfold bd_grow
  split <;> refine ⟨?_, ?_, ?_, ?_⟩ <;> omega
theorem bd_cap {b r q cap : Nat} {cs : List Int32} (hB : Bld σ b r cs cap) (hq : cap < q) (hm : q ≤ 10000) (k : Q (.returned (some (.int (nI (bd_grow q cap))))) σ) : Go z l mt_JAbstractStringBuilder_newCapacity (d + 9) 0 [.ref b, .int (nI q), .retAddr 0, .retAddr 0, .retAddr 0, .retAddr 0] [] σ Q := by
  obtain ⟨h1, h2, h3, h4, h5, h6, h7, h8⟩ := hB
  have g := bd_grow_ge hq
  have e : ((nI (σ.len r)) + (if ((nI q <<< ((0 : Int32) &&& 31)) - (nI (σ.len r))) < ((nI (σ.len r)) + ((2 : Int32) <<< ((0 : Int32) &&& 31))) then ((nI (σ.len r)) + ((2 : Int32) <<< ((0 : Int32) &&& 31))) else ((nI q <<< ((0 : Int32) &&& 31)) - (nI (σ.len r))))) = nI (bd_grow q cap) := by
    rw [shl0, shl0, h5, pk_sub (by omega), show nI cap + 2 = nI (cap + 2) from nI_add cap 2]
    unfold bd_grow
    by_cases h : q - cap < cap + 2
    · rw [if_pos h, if_pos (nI_lt h (by omega)), nI_add]
    · rw [if_neg h, if_neg (nI_nlt (by omega) (by omega)), nI_add]
  have p1 : ¬ nI (bd_grow q cap) ≤ 0 := nI_nle (by omega) (by omega)
  have p2 : ¬ (2147483639 : Int32) < nI (bd_grow q cap) := show ¬ nI 2147483639 < nI (bd_grow q cap) from nI_nlt (by omega) (by decide)
  have p3 : ¬ nI (bd_grow q cap) = 2147483647 := fun q9 => by
    have := (nI_eq (by omega) (by decide)).mp (show nI (bd_grow q cap) = nI 2147483647 from q9)
    omega
  refine js_JAbstractStringBuilder_newCapacity h1 h3 h4 h2 ?_ ?_ ?_ ?_ <;> rw [e]
  · exact fun q9 => absurd q9 p1
  · exact fun _ q9 => absurd q9 p2
  · intro _ _ _
    rw [shr0]
    exact k
  · exact fun _ _ q9 => absurd q9 p3
theorem bd_copyOf {r m q : Nat} (ht : σ.tag r = 21) (hl : σ.len r = m) (hz : z.heap.size ≤ σ.nx) (h : m < q) (hq : q ≤ 100000) (k : Q (.returned (some (.ref σ.nx))) ((σ.newA 21 q).rowI σ.nx (va_cpy (σ.eI r) (σ.eI σ.nx) 0 0 m))) : Go z l mt_JArrays_copyOf (d + 9) 0 [.ref r, .int (nI q), .retAddr 0] [] σ Q := by
  refine go_wf fun hw => ?_
  have hr : r < σ.nx := hw.lt (by rw [ht]; decide)
  have ec : (nI q).toNatClampNeg = q := nI_clamp (by omega)
  have l1 : (σ.newA 21 q).len r = m := (hp_up_ne _ _ (by omega)).trans hl
  have l2 : (σ.newA 21 q).len σ.nx = q := hp_up_same _ _ _
  have em : (if nI q < nI m then nI q else nI m) = nI m := if_neg (nI_nlt (by omega) (by omega))
  have em2 : (nI m).toNatClampNeg = m := nI_clamp (by omega)
  refine js_JArrays_copyOf ht hz (fun _ => nI_pos (by omega)) (fun _ => by rw [ec]; exact hq) (fun _ => by decide) (fun _ => by decide) (fun _ => ?_) (fun _ => ?_) (fun _ => ?_) (fun _ => ?_) (fun q9 => ?_)
  · rw [ec, l1, em]; exact nI_pos (by omega)
  · rw [ec, l1, em, em2, cl_0]; omega
  · rw [ec, l1, l2, em, em2, cl_0]; omega
  · rw [ec, l1, em, em2, cl_0]; exact k
  · rw [hl] at q9
    have := (nI_eq (by omega) (by omega)).mp q9
    omega
/-- room for q characters -/
theorem bd_ens {b r q cap : Nat} {cs : List Int32} (hB : Bld σ b r cs cap) (hz : z.heap.size ≤ b) (hzr : z.heap.size ≤ r) (hm : q ≤ 10000) (hc : cap ≤ 10000) (k : ∀ σ' r' cap', Fx (fun a => a = b) σ σ' → Bld σ' b r' cs cap' → z.heap.size ≤ r' → (r' = r ∨ σ.nx ≤ r') → q ≤ cap' → σ'.nx ≤ σ.nx + 1 → (cap' = cap ∧ σ'.sl = σ.sl ∨ cap < q ∧ cap' = bd_grow q cap ∧ σ'.sl = σ.sl + cap') → Q (.returned none) σ') :
    Go z l mt_JAbstractStringBuilder_ensureCapacityInternal (d + 10) 0 [.ref b, .int (nI q), .retAddr 0] [] σ Q := by
  refine go_wf fun hw => ?_
  have hB' := hB
  obtain ⟨h1, h2, h3, h4, h5, h6, h7, h8⟩ := hB
  have hbn : b < σ.nx := hw.lt (by rw [h1]; decide)
  have hrn : r < σ.nx := hw.lt (by rw [h4]; decide)
  have es : nI q - nI cap ≤ 0 ↔ q ≤ cap := by
    have e1 : (nI q - nI cap).toInt = (q : Int) - cap := pk_sub_toInt (by omega) (by omega)
    rw [Int32.le_iff_toInt_le, e1, Int32.toInt_zero]
    omega
  refine js_JAbstractStringBuilder_ensureCapacityInternal (d := d + 1) h1 h3 h4 h2 (fun hx => ?_) (fun hx => ?_)
  · rw [shr0, h5, es] at hx
    exact k σ r cap (Fx.rfl' _ σ) hB' hzr (Or.inl rfl) hx (Nat.le_succ _) (Or.inl ⟨rfl, rfl⟩)
  · rw [shr0, h5, es] at hx
    have hx' : cap < q := by omega
    have g := bd_grow_ge hx'
    refine bd_cap (d := d) hB' hx' hm (fun _ => gj_nextI ?_)
    refine js_JAbstractStringBuilder_ensureCapacityInternal_27 (d := d + 1) h1 h2 ?_
    rw [shl0]
    refine bd_copyOf (d := d) h4 h5 (by omega) g.2.1 (by omega) (fun _ => gj_nextI ?_)
    have t9 : ((σ.newA 21 (bd_grow q cap)).rowI σ.nx (va_cpy (σ.eI r) (σ.eI σ.nx) 0 0 cap)).tag b = 13 := hp_tag_newA (n := bd_grow q cap) hw h1 (by decide)
    refine js_JAbstractStringBuilder_ensureCapacityInternal_35 (d := d + 1) t9 hz (k _ σ.nx (bd_grow q cap) ⟨Nat.le_succ _, Nat.le_add_right _ _, fun a ha hx9 => ((SameC.newA ha).trans (SameC.rowI (by omega))).trans (SameC.setA hx9)⟩ ⟨t9, h2, Hp.sA _ _ _ _, hp_up_same _ _ _, hp_up_same _ _ _, h6, by omega, fun i hi => ?_⟩ (by omega) (Or.inr (Nat.le_refl _)) g.1 (Nat.le_refl _) (Or.inr ⟨hx', rfl, rfl⟩))
    show va_up σ.eI σ.nx (va_cpy (σ.eI r) (σ.eI σ.nx) 0 0 cap) σ.nx i = _
    rw [hp_up_same]
    unfold va_cpy
    rw [if_pos ⟨by omega, by omega⟩, ← h8 i hi]
    congr 1
    omega
end Builders
