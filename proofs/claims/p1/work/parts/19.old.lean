/-! ===== what lay in the heap before: constants of the enums, their fields, static arrays ===== -/
def gj_St (z : State) (op sg : Nat → Nat) (aO aS mO mS : Nat) : Prop :=
  va_En "TruthBench$Op" "LTruthBench$Op;" opN opF op (fun q => z.heap.size ≤ q) z z.heap ∧ va_En "TruthBench$Sign" "LTruthBench$Sign;" sgN sgF sg (fun q => z.heap.size ≤ q) z z.heap ∧
  (va_Z "TruthBench$Op" "ALL" "[LTruthBench$Op;" (.ref aO) (fun q => z.heap.size ≤ q) z z.heap ∧ va_T (.object "TruthBench$Op") aO 43 (fun j => .ref (op j)) (fun q => z.heap.size ≤ q) z z.heap) ∧
  (va_Z "TruthBench$Sign" "ALL" "[LTruthBench$Sign;" (.ref aS) (fun q => z.heap.size ≤ q) z z.heap ∧ va_T (.object "TruthBench$Sign") aS 35 (fun j => .ref (sg j)) (fun q => z.heap.size ≤ q) z z.heap) ∧
  (va_Z "TruthBench$1" "$SwitchMap$TruthBench$Op" "[I" (.ref mO) (fun q => z.heap.size ≤ q) z z.heap ∧ va_T .int mO 43 (fun j => .int (op_map.getD j 0)) (fun q => z.heap.size ≤ q) z z.heap) ∧
  (va_Z "TruthBench$1" "$SwitchMap$TruthBench$Sign" "[I" (.ref mS) (fun q => z.heap.size ≤ q) z z.heap ∧ va_T .int mS 35 (fun j => .int (sg_map.getD j 0)) (fun q => z.heap.size ≤ q) z z.heap)
theorem gj_St_of {z : State} (hz : gj_Zok z) : ∃ (op sg : Nat → Nat) (aO aS mO mS : Nat), gj_St z op sg aO aS mO mS := by
  obtain ⟨op, h1, h1'⟩ := op_enum hz
  obtain ⟨sg, h2, h2'⟩ := sg_enum hz
  obtain ⟨aO, h3⟩ := op_all_arr h1' hz
  obtain ⟨aS, h4⟩ := sg_all_arr h2' hz
  obtain ⟨mO, h5⟩ := op_map_arr hz
  obtain ⟨mS, h6⟩ := sg_map_arr hz
  exact ⟨op, sg, aO, aS, mO, mS, h1, h2, h3, h4, h5, h6⟩
section GjOld
variable {z : State} {l : Launch} {M : Mt} {d pc : Nat} {ls st : List Value} {σ : Hp} {Q : Outcome → Hp → Prop} {op sg : Nat → Nat} {aO aS mO mS : Nat}
theorem gj_St.opN {k : Nat} (hs : gj_St z op sg aO aS mO mS) (hk : k < 43) : va_Z "TruthBench$Op" (opN.getD k "") "LTruthBench$Op;" (.ref (op k)) (fun q => z.heap.size ≤ q) z z.heap := (hs.1.1 k hk).1
theorem gj_St.sgN {k : Nat} (hs : gj_St z op sg aO aS mO mS) (hk : k < 35) : va_Z "TruthBench$Sign" (sgN.getD k "") "LTruthBench$Sign;" (.ref (sg k)) (fun q => z.heap.size ≤ q) z z.heap := (hs.2.1.1 k hk).1
theorem gj_St.opinj {i j : Nat} (hs : gj_St z op sg aO aS mO mS) (hi : i < 43) (hj : j < 43) (h : op i = op j) : i = j := hs.1.2 i j hi hj h
theorem gj_St.sginj {i j : Nat} (hs : gj_St z op sg aO aS mO mS) (hi : i < 35) (hj : j < 35) (h : sg i = sg j) : i = j := hs.2.1.2 i j hi hj h
theorem go_getO {k index : Nat} (hs : gj_St z op sg aO aS mO mS) (hk : k < 43) (hw : Cond.fieldLink M.y.cls index "TruthBench$Op" (opN.getD k "") "LTruthBench$Op;" ∈ tw_all) (hd : decode M.cc pc = .ok (.getstatic index, 3)) (kk : Go z l M d (pc + 3) ls (.ref (op k) :: st) σ Q) : Go z l M d pc ls st σ Q := go_gets hw hd (fun _ => hs.opN hk) kk
theorem go_getS {k index : Nat} (hs : gj_St z op sg aO aS mO mS) (hk : k < 35) (hw : Cond.fieldLink M.y.cls index "TruthBench$Sign" (sgN.getD k "") "LTruthBench$Sign;" ∈ tw_all) (hd : decode M.cc pc = .ok (.getstatic index, 3)) (kk : Go z l M d (pc + 3) ls (.ref (sg k) :: st) σ Q) : Go z l M d pc ls st σ Q := go_gets hw hd (fun _ => hs.sgN hk) kk
/-- a field of an object that lay there before -/
theorem go_getE {o n dd : String} {v : Value} {t index : Nat} (hF : va_OF o n dd v t (fun q => z.heap.size ≤ q) z z.heap) (hw : Cond.fieldLink M.y.cls index o n dd ∈ tw_all) (hd : decode M.cc pc = .ok (.getfield index, 3)) (kk : Go z l M d (pc + 3) ls (v :: st) σ Q) : Go z l M d pc ls (.ref t :: st) σ Q :=
  go_lift0 (fun p e R s m args below meth c la H locs cells slots Q' X hl hr k => by
    obtain ⟨cf, kf, fi, f, cell, h1, h2, h3, h4, h5, -⟩ := va_OF.moved X.warm.alike (hF.kept (H1 := H) fun a ha _ => hr.2.2.1 a ha)
    exact W.getf X.1 X.2.1 X.own (X.word hw args) h1 h2 h3 h4 h5 (g := F0 m pc la (.ref t :: st)) rfl rfl hd k) kk
theorem go_opF {k index : Nat} {q : String × String × String × List Int32} {v : Int32} (hs : gj_St z op sg aO aS mO mS) (hk : k < 43) (hq : q ∈ opF) (hv : q.2.2.2.getD k 0 = v) (hw : Cond.fieldLink M.y.cls index q.1 q.2.1 q.2.2.1 ∈ tw_all) (hd : decode M.cc pc = .ok (.getfield index, 3)) (kk : Go z l M d (pc + 3) ls (.int v :: st) σ Q) : Go z l M d pc ls (.ref (op k) :: st) σ Q := by
  subst hv
  exact go_getE ((hs.1.1 k hk).2.2 q hq) hw hd kk
theorem go_sgF {k index : Nat} {q : String × String × String × List Int32} {v : Int32} (hs : gj_St z op sg aO aS mO mS) (hk : k < 35) (hq : q ∈ sgF) (hv : q.2.2.2.getD k 0 = v) (hw : Cond.fieldLink M.y.cls index q.1 q.2.1 q.2.2.1 ∈ tw_all) (hd : decode M.cc pc = .ok (.getfield index, 3)) (kk : Go z l M d (pc + 3) ls (.int v :: st) σ Q) : Go z l M d pc ls (.ref (sg k) :: st) σ Q := by
  subst hv
  exact go_getE ((hs.2.1.1 k hk).2.2 q hq) hw hd kk
theorem gj_T {p : Program} {R : Room} {s : State} {m : MethodId} {meth : Method} {c : Code} {H : Heap} {ty : FieldType} {t N : Nat} {f : Nat → Value} (X : gj_Cx z l M d p R s m meth c) (hr : hp_Rel z σ H) (hT : va_T ty t N f (fun q => z.heap.size ≤ q) z z.heap) : va_T ty t N f (fun q => z.heap.size ≤ q) s H :=
  va_T.moved X.warm.alike (hT.kept fun a ha _ => hr.2.2.1 a ha)
theorem go_alenT {ty : FieldType} {t N : Nat} {f : Nat → Value} (hT : va_T ty t N f (fun q => z.heap.size ≤ q) z z.heap) (hd : decode M.cc pc = .ok (.arraylength, 1)) {v : Int32} (hv : nI N = v) (kk : Go z l M d (pc + 1) ls (.int v :: st) σ Q) : Go z l M d pc ls (.ref t :: st) σ Q := by
  subst hv
  exact go_lift0 (fun p e R s m args below meth c la H locs cells slots Q' X hl hr k => by
    obtain ⟨cell, h1, h2, h3, h4, h5, h6, -⟩ := gj_T X hr hT
    exact W.alen X.1 X.2.1 (n := nI N) h1 h2 h5 (g := F0 m pc la (.ref t :: st)) rfl rfl hd k) kk
theorem gj_inT {j : Int32} {q N : Nat} {cell : Cell} (hj : j = nI q) (hq : q < N) (hN : N < 2 ^ 31) (h4 : N ≤ cell.slots.size) : ¬ (j < 0 ∨ cell.slots.size ≤ j.toNatClampNeg) ∧ j.toNatClampNeg = q := by
  subst hj
  have e := nI_clamp (n := q) (by omega)
  refine ⟨fun h => ?_, e⟩
  rcases h with h | h
  · exact nI_pos (n := q) (by omega) h
  · rw [e] at h
    omega
theorem go_ialdT {t N q : Nat} {f : Nat → Value} {j : Int32} {v : Value} (hT : va_T .int t N f (fun q => z.heap.size ≤ q) z z.heap) (hj : j = nI q) (hq : q < N) (hN : N < 2 ^ 31) (hv : f q = v) (hd : decode M.cc pc = .ok (.iaload, 1)) (kk : Go z l M d (pc + 1) ls (v :: st) σ Q) : Go z l M d pc ls (.int j :: .ref t :: st) σ Q :=
  go_lift0 (fun p e R s m args below meth c la H locs cells slots Q' X hl hr k => by
    obtain ⟨cell, h1, h2, h3, h4, h5, h6, -⟩ := gj_T X hr hT
    obtain ⟨a1, a2⟩ := gj_inT hj hq hN h4
    exact W.iald X.1 X.2.1 h1 h2 h3 a1 (v := v) (by rw [a2, h6 q hq, hv]) (g := F0 m pc la (.int j :: .ref t :: st)) rfl rfl hd k) kk
theorem go_aaldT {C : String} {t N q : Nat} {f : Nat → Value} {j : Int32} {v : Value} (hT : va_T (.object C) t N f (fun q => z.heap.size ≤ q) z z.heap) (hj : j = nI q) (hq : q < N) (hN : N < 2 ^ 31) (hv : f q = v) (hd : decode M.cc pc = .ok (.aaload, 1)) (kk : Go z l M d (pc + 1) ls (v :: st) σ Q) : Go z l M d pc ls (.int j :: .ref t :: st) σ Q :=
  go_lift0 (fun p e R s m args below meth c la H locs cells slots Q' X hl hr k => by
    obtain ⟨cell, h1, h2, h3, h4, h5, h6, -⟩ := gj_T X hr hT
    obtain ⟨a1, a2⟩ := gj_inT hj hq hN h4
    exact W.aald X.1 X.2.1 h1 h2 rfl h3 a1 (v := v) (by rw [a2, h6 q hq, hv]) (g := F0 m pc la (.int j :: .ref t :: st)) rfl rfl hd k) kk
variable {M' : Mt} {As rest : List Value}
/-- a call of an inherited method, of an object that lay there before -/
theorem gj_lkU {index b : Nat} {C owner : String} {x : MethodName} (hO : va_O C b (fun q => z.heap.size ≤ q) z z.heap) (hw1 : Cond.methodLink M.y.cls index x ∈ tw_all) (hw2 : Cond.sameMethod x.cls owner x.name x.desc ∈ tw_all) (hw3 : Cond.selects C x M'.y ∈ tw_all) (hw4 : Cond.instanceMethod M'.y ∈ tw_all) (hcw : Cond.code M'.y M'.cc M'.nL M'.ret ∈ tw_all)
    (hy : (⟨owner, x.name, x.desc⟩ : MethodName) = M'.y) (hown : owner ≠ "java/lang/invoke/MethodHandle" ∧ owner ≠ "java/lang/invoke/VarHandle") (hn : gj_np x = some As.length) (hd : decode M.cc pc = .ok (.invokevirtual index, 3)) :
    gj_Lk z l M d pc (As.reverse ++ .ref b :: rest) M' (.ref b :: As) rest σ := by
  intro p e R s m args below meth c T locs cells slots la X hsz hr XT
  have hd' : decode c.code pc = .ok (.invokevirtual index, 3) := by rw [X.2.1]; exact hd
  obtain ⟨cellB, hcell, hobj, hcls, -⟩ := va_O.moved X.warm.alike (hO.kept (H1 := T.heap) fun a ha _ => hr.2.2.1 a ha)
  obtain ⟨r0, r, hnn, hrm, hstR, hsigR⟩ := va_Decl.of (X.word hw4 args) (X.word hcw args)
  obtain ⟨cn, ck, r1, hcn, hck, hni, hf, hn1⟩ := Cond.sameMethod_found (X.word hw2 args)
  rw [hy] at hn1
  cases hnn.symm.trans hn1
  obtain ⟨mk, methM, hnamed, hmethM, -, habM⟩ := Cond.instanceMethod_spec (X.word hw4 args)
  obtain ⟨c2, r2, m2, q1, q2, q3, q4, kP, hkP, hkPi⟩ := Cond.selects_spec (X.word hw3 args)
  cases hcls.symm.trans q1
  cases hf.symm.trans q2
  cases hnamed.symm.trans q3
  have hselP : selectMethod e.platform s.vm cellB.cls r0 = .method mk := by rw [Launch.admits_selectMethod XT.admits]; exact q4
  have hsigx : parseMethodDescriptor x.desc = some r.sig := by rw [← hsigR, ← hy]
  obtain ⟨vm₁, X₁, hstep₁⟩ := XT.invokevirtualUp X.1 X.own (X.word hw1 args) (X.word hw2 args) hown (by rw [hy]; exact hnn) hrm hstR (a := b) (cell := cellB) hcell
    (fun z h => by rw [h] at hobj; cases hobj) hselP hmethM habM hkP hkPi (g := F0 m pc la (As.reverse ++ .ref b :: rest)) rfl (argsL := As) (rest := rest) (gj_np_of hn rfl _ hsigx) rfl hd'
  exact ⟨vm₁, mk, _, X₁, hd', X₁.named hnamed, hstep₁⟩
end GjOld
