/-! ===== calls of a builder's private and inherited methods ===== -/
section JLinks
variable {z : State} {l : Launch} {M M' Mx : Mt} {d pc : Nat} {ls st As rest : List Value} {σ : Hp} {Q : Outcome → Hp → Prop}
/-- a private method of the superclass -/
theorem gj_lkQ {index b t : Nat} (hw1 : Cond.methodLink M.y.cls index M'.y ∈ tw_all) (hw2 : Cond.instanceMethod M'.y ∈ tw_all) (hw3 : Cond.privateMethod M'.y ∈ lw_tbl) (hw4 : Cond.sameMethod M'.y.cls M'.y.cls M'.y.name M'.y.desc ∈ tw_all) (hcw : gj_cw M' ∈ tw_all) (hy : gj_plain M'.y) (hn : gj_np M'.y = some As.length) (hd : decode M.cc pc = .ok (.invokevirtual index, 3)) (ht : σ.tag b = t) (h0 : t ≠ 0) (hna : ct_arr t = none := by decide +kernel) :
    gj_Lk z l M d pc (As.reverse ++ .ref b :: rest) M' (.ref b :: As) rest σ := by
  intro p e R s m args below meth c T locs cells slots la X hsz hr XT
  have hd' : decode c.code pc = .ok (.invokevirtual index, 3) := by rw [X.2.1]; exact hd
  obtain ⟨cellB, hcell, hvm, hcls⟩ := gj_recv ht h0 hr X.warm hna
  obtain ⟨mk, methM, hnamed, hmethM, hstM, habM⟩ := Cond.instanceMethod_spec (X.word hw2 args)
  obtain ⟨methM', cM, hmethM', -, -, -, -, -, -, hsigM⟩ := gj_cw_spec (X.word hcw args) hnamed
  cases hmethM.symm.trans hmethM'
  obtain ⟨cn, ck, r1, hcn, hck, hni, -, hn1⟩ := Cond.sameMethod_found (X.word hw4 args)
  cases hnamed.symm.trans hn1
  have hcn' : cn = mk.cls := Option.some.inj (hcn.symm.trans (findClass_of_methodNamed hnamed))
  subst hcn'
  obtain ⟨za, hz1, -⟩ := X.zok
  have hp9 : (Cond.privateMethod M'.y).before args s = true := Cond.privateMethod_warm X.warm (hz1 _ hw3)
  have hselP : selectMethod e.platform s.vm cellB.cls mk = .method mk := selectMethod_private hmethM (Cond.privateMethod_at hp9 mk methM hnamed hmethM)
  obtain ⟨vm₁, X₁, hstep₁⟩ := XT.invokevirtual X.1 X.own (X.word hw1 args) hnamed hmethM hstM hck hni hy (a := b) (cell := cellB) hcell
    (fun _ h => hvm.ns _ h) hselP hmethM habM hck hni (g := F0 m pc la (As.reverse ++ .ref b :: rest)) rfl (argsL := As) (rest := rest) (gj_np_of hn rfl _ hsigM) rfl hd'
  exact ⟨vm₁, mk, _, X₁, hd', X₁.named hnamed, hstep₁⟩
/-- a method named of the superclass; the receiver's class selects M' -/
theorem gj_lkR {index b t : Nat} (Mx : Mt) (hw1 : Cond.methodLink M.y.cls index Mx.y ∈ tw_all) (hw2 : Cond.sameMethod Mx.y.cls Mx.y.cls Mx.y.name Mx.y.desc ∈ tw_all) (hw3 : Cond.selects (ct_name t) Mx.y M'.y ∈ tw_all) (hw4 : Cond.instanceMethod Mx.y ∈ tw_all) (hcx : gj_cw Mx ∈ tw_all) (hw5 : Cond.instanceMethod M'.y ∈ tw_all) (hy : gj_plain Mx.y) (hn : gj_np Mx.y = some As.length) (hd : decode M.cc pc = .ok (.invokevirtual index, 3)) (ht : σ.tag b = t) (h0 : t ≠ 0) (hna : ct_arr t = none := by decide +kernel) :
    gj_Lk z l M d pc (As.reverse ++ .ref b :: rest) M' (.ref b :: As) rest σ := by
  intro p e R s m args below meth c T locs cells slots la X hsz hr XT
  have hd' : decode c.code pc = .ok (.invokevirtual index, 3) := by rw [X.2.1]; exact hd
  obtain ⟨cellB, hcell, hvm, hcls⟩ := gj_recv ht h0 hr X.warm hna
  obtain ⟨r0, r, hnn, hrm, hstR, habR⟩ := Cond.instanceMethod_spec (X.word hw4 args)
  obtain ⟨r', cM, hrm', -, -, -, -, -, -, hsigR⟩ := gj_cw_spec (X.word hcx args) hnn
  cases hrm.symm.trans hrm'
  obtain ⟨cn, ck, r1, hcn, hck, hni, hf, hn1⟩ := Cond.sameMethod_found (X.word hw2 args)
  cases hnn.symm.trans hn1
  obtain ⟨mk, methM, hnamed, hmethM, -, habM⟩ := Cond.instanceMethod_spec (X.word hw5 args)
  obtain ⟨c2, r2, m2, q1, q2, q3, q4, kP, hkP, hkPi⟩ := Cond.selects_spec (X.word hw3 args)
  cases hcls.symm.trans q1
  cases hf.symm.trans q2
  cases hnamed.symm.trans q3
  have hselP : selectMethod e.platform s.vm cellB.cls r0 = .method mk := by rw [Launch.admits_selectMethod XT.admits]; exact q4
  obtain ⟨vm₁, X₁, hstep₁⟩ := XT.invokevirtualUp X.1 X.own (X.word hw1 args) (X.word hw2 args) hy hnn hrm hstR (a := b) (cell := cellB) hcell
    (fun _ h => hvm.ns _ h) hselP hmethM habM hkP hkPi (g := F0 m pc la (As.reverse ++ .ref b :: rest)) rfl (argsL := As) (rest := rest) (gj_np_of hn rfl _ hsigR) rfl hd'
  exact ⟨vm₁, mk, _, X₁, hd', X₁.named hnamed, hstep₁⟩
end JLinks
