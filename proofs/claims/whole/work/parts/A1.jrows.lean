/-! ===== rows that the library's strings need: instanceof, checkcast, clone of bytes, a call of the superclass's method ===== -/
theorem as_self (vm : Vm) (c : ClassId) : vm.assignable c c = true := by
  show vm.assignableAux (255 + 1) c c = true
  rw [Vm.assignableAux]
  simp only [beq_self_eq_true, Bool.true_or]
section JRows
variable {z : State} {l : Launch} {M M' : Mt} {d pc : Nat} {ls st As rest : List Value} {σ : Hp} {Q : Outcome → Hp → Prop}
theorem go_inst {a t index : Nat} (hw : Cond.classLink M.y.cls index (ct_name t) ∈ tw_all) (h0 : t ≠ 0) (hd : decode M.cc pc = .ok (.instanceof index, 3)) (ht : σ.tag a = t) (k : Go z l M d (pc + 3) ls (.int 1 :: st) σ Q) (hna : ct_arr t = none ∨ z.heap.size ≤ a := by first | exact Or.inl (by decide +kernel) | exact Or.inr (by assumption)) : Go z l M d pc ls (.ref a :: st) σ Q :=
  go_lift0 (fun p e R s m args below meth c la H locs cells slots Q' X hl hr kk => by
    obtain ⟨cell, kC, q1, q2, q3, q5, -⟩ := gj_cell X hr ht h0 hna
    intro T hT XT
    obtain ⟨vm', X', step⟩ := XT.instanceofYes X.1 X.own (X.word hw args) (a := a) (by rw [hT]; exact q1) q2.2.1 q3 (as_self _ _) (g := F0 m pc la (.ref a :: st)) rfl (rest := st) rfl (by rw [X.2.1]; exact hd)
    obtain ⟨t9, a1, b1⟩ := kk (T.setVm vm') hT X'
    exact ⟨t9, step t9 a1, b1⟩) k
theorem go_ckc {a t index : Nat} (hw : Cond.classLink M.y.cls index (ct_name t) ∈ tw_all) (h0 : t ≠ 0) (hd : decode M.cc pc = .ok (.checkcast index, 3)) (ht : σ.tag a = t) (k : Go z l M d (pc + 3) ls (.ref a :: st) σ Q) (hna : ct_arr t = none ∨ z.heap.size ≤ a := by first | exact Or.inl (by decide +kernel) | exact Or.inr (by assumption)) : Go z l M d pc ls (.ref a :: st) σ Q :=
  go_lift0 (fun p e R s m args below meth c la H locs cells slots Q' X hl hr kk => by
    obtain ⟨cell, kC, q1, q2, q3, q5, -⟩ := gj_cell X hr ht h0 hna
    intro T hT XT
    obtain ⟨vm', X', step⟩ := XT.checkcastYes X.1 X.own (X.word hw args) (a := a) (by rw [hT]; exact q1) q2.2.1 q3 (as_self _ _) (g := F0 m pc la (.ref a :: st)) rfl (rest := st) rfl (by rw [X.2.1]; exact hd)
    obtain ⟨t9, a1, b1⟩ := kk (T.setVm vm') hT X'
    exact ⟨t9, step t9 a1, b1⟩) k
/-- a superclass's method -/
theorem gj_lkP {index b t : Nat} (hw1 : Cond.methodLink M.y.cls index M'.y ∈ tw_all) (hw2 : Cond.sameMethod M'.y.cls M'.y.cls M'.y.name M'.y.desc ∈ tw_all) (hw3 : Cond.superclass M.y.cls M'.y.cls ∈ tw_all) (hw4 : Cond.instanceMethod M'.y ∈ tw_all) (hcw : gj_cw M' ∈ tw_all) (hi : M'.y.name ≠ "<init>") (hn : gj_np M'.y = some As.length) (hd : decode M.cc pc = .ok (.invokespecial index, 3)) (ht : σ.tag b = t) (h0 : t ≠ 0) (hna : ct_arr t = none := by decide +kernel) :
    gj_Lk z l M d pc (As.reverse ++ .ref b :: rest) M' (.ref b :: As) rest σ := by
  intro p e R s m args below meth c T locs cells slots la X hsz hr XT
  have hd' : decode c.code pc = .ok (.invokespecial index, 3) := by rw [X.2.1]; exact hd
  obtain ⟨cellB, kB, hcell, hvm, hcls, hkB, -⟩ := gj_cell X hr ht h0 (Or.inl hna)
  obtain ⟨mk, methM, hnamed, hmethM, hstM, habM⟩ := Cond.instanceMethod_spec (X.word hw4 args)
  obtain ⟨methM', cM, hmethM', -, -, -, -, -, -, hsigM⟩ := gj_cw_spec (X.word hcw args) hnamed
  cases hmethM.symm.trans hmethM'
  obtain ⟨pS, kD, kP, hpS, hkD, hkP, hsup, -, -, hnif⟩ := Cond.superclass_spec X.own (X.word hw3 args)
  have hmc : pS = mk.cls := Option.some.inj (hpS.symm.trans (findClass_of_methodNamed hnamed))
  obtain ⟨vm₁, X₁, hstep₁⟩ := XT.invokespecialUp X.1 X.own (owner := M'.y.cls) (X.word hw1 args) (X.word hw2 args) hnamed hmethM hstM habM hi hkD hnif hpS hsup (by rw [hmc]; simp [Vm.isSubclass, Vm.isSubclassAux]) (a := b) (cell := cellB) hcell
    (fun _ h => hvm.ns _ h) hkB (g := F0 m pc la (As.reverse ++ .ref b :: rest)) rfl (argsL := As) (rest := rest) (gj_np_of hn rfl _ hsigM) rfl hd'
  refine ⟨vm₁, mk, _, X₁, hd', X₁.named hnamed, fun target h => hstep₁ target ?_⟩
  exact h []
/-- a copy of an array of bytes -/
theorem go_cloneB {a index : Nat} (hw1 : Cond.methodLink M.y.cls index ⟨"[B", "clone", "()Ljava/lang/Object;"⟩ ∈ tw_all) (hw2 : Cond.sameMethod "[B" "java/lang/Object" "clone" "()Ljava/lang/Object;" ∈ tw_all) (hw3 : Cond.native ⟨"java/lang/Object", "clone", "()Ljava/lang/Object;"⟩ ∈ tw_all) (hw4 : Cond.instanceMethod ⟨"java/lang/Object", "clone", "()Ljava/lang/Object;"⟩ ∈ tw_all) (hw5 : Cond.selects "[B" ⟨"[B", "clone", "()Ljava/lang/Object;"⟩ ⟨"java/lang/Object", "clone", "()Ljava/lang/Object;"⟩ ∈ tw_all) (hw6 : Cond.castable "[B" "java/lang/Cloneable" ∈ lw_tbl)
    (hd : decode M.cc pc = .ok (.invokevirtual index, 3)) (ht : σ.tag a = 21) (hza : z.heap.size ≤ a) (h1d : 1 ≤ d) (hst : (st.map fun v => v.category).sum ≤ 8) (k : Go z l M d (pc + 3) ls (.ref σ.nx :: st) ((σ.newA 21 (σ.len a)).rowI σ.nx (σ.eI a)) Q) : Go z l M d pc ls (.ref a :: st) σ Q := by
  refine go_wf fun hwf => ?_
  have han : a < σ.nx := hwf.lt (by rw [ht]; decide)
  have t9 : (σ.newA 21 (σ.len a)).tag σ.nx = 21 := hp_up_same _ _ _
  refine go_heap (fun hw => (hw.newA 21 _).rowI (show σ.nx < σ.nx + 1 by omega) _ (fun _ j => hw.2 a ht j)) (fun hw => (hp_Le.newA hw 21 _).trans (hp_Le.rowI _ _ _)) (fun p e R s m args below meth c la H locs cells slots Q' X hl hr hfr e1 e2 kk => ?_) k
  have e0 : ((σ.newA 21 (σ.len a)).rowI σ.nx (σ.eI a)).nx - σ.nx = 1 := Nat.add_sub_cancel_left _ _
  have e00 : ((σ.newA 21 (σ.len a)).rowI σ.nx (σ.eI a)).sl - σ.sl = σ.len a := Nat.add_sub_cancel_left _ _
  rw [e0] at e1
  rw [e00] at e2
  rw [e0, e00] at kk
  obtain ⟨c0, k0, p1, p2, p3, p5, p4⟩ := gj_cell X hr ht (by decide) (Or.inr hza)
  have ha : ct_arr 21 = some .byte := by decide +kernel
  rw [ha] at p4
  obtain ⟨kA0, cm0, hk0, hkk0, -, -⟩ := gj_isArr ha X p2.2.1 p3
  have hf := X.frames
  have hlo := X.locals
  intro T hT XT
  obtain ⟨cA, cC, r1, r2, r3⟩ := Cond.castable_spec (X.wordT hw6 rfl args)
  have hcA : cA = c0.cls := Option.some.inj (r1.symm.trans p3)
  rw [hcA] at r3
  have hkT : ∃ k, T.vm.classes[c0.cls]? = some k ∧ ∃ comp, k.kind = .array comp .byte := by
    obtain ⟨k9, q9, w9⟩ := XT.warmed.alike.2.2 _ _ hk0
    exact ⟨k9, q9, cm0, by rw [w9]; exact hkk0⟩
  obtain ⟨kT, hkT1, cmT, hkT2⟩ := hkT
  obtain ⟨vm', X', step⟩ := XT.cloneArray X.1 X.own (X.word hw1 args) (X.word hw2 args) (X.word hw3 args) (X.word hw4 args) (X.word hw5 args) (a := a) (cell := c0) (by rw [hT]; exact p1) (fun _ h => by rw [p2.2.2 hza] at h; cases h) (fun h => by rw [p2.2.2 hza] at h; cases h) p3 r2 r3
    (fun i v hv => by
      have hi : i < σ.len a := by
        have := (Array.getElem?_eq_some_iff.mp hv).1
        rw [p4.1] at this
        exact this
      have hv2 := p4.2 i hi
      rw [hv] at hv2
      have hv3 : v = .int (σ.eI a i) := Option.some.inj hv2
      rw [hv3]
      simp [State.fitsSlot, State.slotType?, hkT1, hkT2]
      exact isB_fits (hwf.2 a ht i))
    (g := F0 m pc la (.ref a :: st)) rfl (hl.1.trans X.maxL.symm) (rest := st) rfl (by rw [X.2.1]; exact hd) (by omega) (by show 2 * 0 + (st.map fun v => v.category).sum + 14 ≤ _; omega) e1 (by rw [p4.1]; exact e2) (Vm.clonesLoader_of_array hk0 hkk0)
  have hsz : H.size = σ.nx := hr.1
  have hheap : ((T.setVm vm').pushCell { cls := c0.cls, slots := c0.slots }).heap = H.push { cls := c0.cls, slots := c0.slots } := by rw [← hT]; rfl
  have lt9 : ∀ b, σ.tag b ≠ 0 → b < σ.nx := fun b hb => hp_Rel.lt hr hb
  have hR2 : hp_Rel z ((σ.newA 21 (σ.len a)).rowI σ.nx (σ.eI a)) (H.push { cls := c0.cls, slots := c0.slots }) := by
    obtain ⟨g1, g2, g3, g4, g5⟩ := hr
    have oq : ∀ q : Nat, q < σ.nx → (H.push ({ cls := c0.cls, slots := c0.slots } : Cell))[q]? = H[q]? := fun q hq => by rw [Array.getElem?_push, if_neg (by omega)]
    refine ⟨by simp [hsz]; rfl, Nat.le_succ_of_le g2, fun q hq => (oq q (by omega)).trans (g3 q hq), fun b hb => ?_, fun b hb => ?_⟩
    · by_cases hbn : b = σ.nx
      · subst hbn
        show hp_ok z _ _ σ.nx ((σ.newA 21 (σ.len a)).tag σ.nx)
        rw [t9]
        refine ⟨_, by rw [← hsz]; exact Array.getElem?_push_size, vm9.new, hp_cl.arr ha X.zok rfl (by rw [← X.warm.alike.findClass]; exact p3), ?_⟩
        rw [ha]
        have hl9 : (σ.newA 21 (σ.len a)).len σ.nx = σ.len a := hp_up_same _ _ _
        refine ⟨hp_ln.eq (p4.1.trans hl9.symm), fun j hj => ?_⟩
        have hj' : j < σ.len a := by
          have hj9 : j < (σ.newA 21 (σ.len a)).len σ.nx := hj
          rw [hl9] at hj9
          exact hj9
        refine (p4.2 j hj').trans ?_
        show some (Value.int (σ.eI a j)) = some (Value.int (va_up σ.eI σ.nx (σ.eI a) σ.nx j))
        rw [hp_up_same]
      · have tb : (σ.newA 21 (σ.len a)).tag b = σ.tag b := hp_up_ne _ _ hbn
        have hb' : σ.tag b ≠ 0 := by
          have hb9 : (σ.newA 21 (σ.len a)).tag b ≠ 0 := hb
          rw [tb] at hb9
          exact hb9
        show hp_ok z _ _ b ((σ.newA 21 (σ.len a)).tag b)
        rw [tb]
        exact (g4 b hb').kept (oq b (lt9 b hb')) (hp_up_ne _ _ hbn) (fun f => ⟨rfl, rfl, rfl⟩) (fun j => ⟨by show va_up σ.eI σ.nx _ b j = _; rw [hp_up_ne _ _ hbn], rfl, rfl⟩)
    · have hb' : σ.nx + 1 ≤ b := hb
      obtain ⟨k1, k2, k3, k4⟩ := g5 b (by omega)
      have hbn : b ≠ σ.nx := by omega
      refine ⟨(hp_up_ne _ _ hbn).trans k1, (hp_up_ne _ _ hbn).trans k2, k3, fun j => ⟨?_, (k4 j).2⟩⟩
      show va_up σ.eI σ.nx _ b j = 0
      rw [hp_up_ne _ _ hbn]
      exact (k4 j).1
  rw [p4.1] at X'
  have Tsz : T.heap.size = σ.nx := by rw [hT]; exact hsz
  obtain ⟨t8, a1, b1⟩ := kk _ _ hR2 hfr _ hheap X'
  refine ⟨t8, step t8 ?_, b1⟩
  rw [Tsz]
  exact a1
end JRows
