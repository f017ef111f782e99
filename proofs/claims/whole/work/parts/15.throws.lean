/-! ===== throws ===== -/
section GjThrow
variable {z : State} {l : Launch} {M : Mt} {d pc : Nat} {ls st : List Value} {σ : Hp} {Q : Outcome → Hp → Prop}
theorem gj_Cx.table {p : Program} {R : Room} {s : State} {m : MethodId} {meth : Method} {c : Code} (X : gj_Cx z l M d p R s m meth c) : c.exceptionTable.toList = tableOf M.hh := X.2.2.2.2.2.2.2.1
/-- no handler here: it goes on to the caller -/
theorem go_out {q : Nat} (hout : ∀ x ∈ tableOf M.hh, covers x pc = false) (hq : Q (.threw q) σ) : GoT z l M d pc ls q σ Q := fun hw =>
  ⟨.threw q, σ, fun p e R s m args below meth c X la st H locs cells slots mc ms hl hr hf e1 e2 e3 e4 T hT XT => by
    obtain ⟨st1, hrun, hend, hW, hsm⟩ := XT.leaveThrown q (g := F0 m pc la st) rfl rfl rfl (by rw [X.table]; exact hout) X.2.2.2.1
    have hm1 : mc = cells := by omega
    have hm2 : ms = slots := by omega
    subst hm1; subst hm2
    exact ⟨_, st1, hrun, hend, by show hp_Rel z σ T.heap; rw [hT]; exact hr, hW, locs, hsm, hf⟩, hw, hp_Le.rfl' σ, hq⟩
theorem go_athrow {q : Nat} (hd : decode M.cc pc = .ok (.athrow, 1)) (k : GoT z l M d pc ls q σ Q) : Go z l M d pc ls (.ref q :: st) σ Q := fun hw => by
  obtain ⟨o, σ', h1, h2⟩ := k hw
  exact ⟨o, σ', fun p e R s m args below meth c X la H locs cells slots mc ms hl hr hf e1 e2 e3 e4 => vx_athrow X.1 X.2.1 hd (h1 p e R s m args below meth c X la st H locs cells slots mc ms hl hr hf e1 e2 e3 e4), h2⟩
/-- a word that may be carried from the law's start -/
def gj_tr (w : Cond) : Bool := goodWord w || match w with
  | .castable _ _ => true
  | .declares _ => true
  | _ => false
theorem gj_Cx.wordT {p : Program} {R : Room} {s : State} {m : MethodId} {meth : Method} {c : Code} (X : gj_Cx z l M d p R s m meth c) {w : Cond} (hw : w ∈ lw_tbl) (ht : gj_tr w = true) (args : Array Value) : w.before args s = true := by
  obtain ⟨za, hz, -⟩ := X.zok
  by_cases hg : goodWord w = true
  · exact word_at X.warm (good_of_word hg) (hz w hw)
  · unfold gj_tr at ht
    rw [Bool.or_eq_true] at ht
    rcases ht with h | h
    · exact absurd h hg
    · cases w <;> first | exact va_Nw.use rfl (va_Nw.warmC X.warm (va_Nw.of rfl (hz _ hw))) | exact va_Nw.use rfl (va_Nw.warmD X.warm (va_Nw.of rfl (hz _ hw))) | cases h
theorem go_catch {q t : Nat} {name : String} (pre : List ExceptionTableEntry) (x : ExceptionTableEntry) (suf : List ExceptionTableEntry) (hsplit : tableOf M.hh = pre ++ x :: suf)
    (hpass : ∀ y ∈ pre, covers y pc = false ∨ (y.catchType ≠ 0 ∧ ∃ nm : String, Cond.classLink M.y.cls y.catchType nm ∈ tw_all ∧ va_Nc (ct_name t) nm z)) (hx : covers x pc = true) (h0 : x.catchType ≠ 0)
    (hlink : Cond.classLink M.y.cls x.catchType name ∈ tw_all) (hcast : Cond.castable (ct_name t) name ∈ lw_tbl) (ht0 : t ≠ 0) (ht : σ.tag q = t) (hq9 : z.heap.size ≤ q) (k : Go z l M d x.handlerPc ls [.ref q] σ Q) : GoT z l M d pc ls q σ Q := fun hw => by
  obtain ⟨o, σ', h1, h2⟩ := k hw
  refine ⟨o, σ', fun p e R s m args below meth c X la st H locs cells slots mc ms hl hr hf e1 e2 e3 e4 => ?_, h2⟩
  obtain ⟨cell, kC, q1, q2, q3, q5, -⟩ := gj_cell X hr ht ht0 (Or.inr hq9)
  exact vx_catch X.own pre x suf (X.table.trans hsplit) (fun y hy => (hpass y hy).imp id fun ⟨a, nm, b, c9⟩ => ⟨a, nm, X.word b args, va_Nc.moved X.warm.alike c9⟩) hx h0 (X.word hlink args) (X.wordT hcast rfl args) q1 (q2.2.2 hq9) q3
    (h1 p e R s m args below meth c X la H locs cells slots mc ms hl hr hf e1 e2 e3 e4)
/-- what a throw of a new exception reads of the statics -/
def gj_thr (z : State) : Prop := vx_Zq Bundle.tN "UNASSIGNED_STACK" Bundle.steD (fun q => z.heap.size ≤ q) z z.heap ∧ vx_Zq Bundle.tN "SUPPRESSED_SENTINEL" Bundle.listD (fun q => z.heap.size ≤ q) z z.heap
theorem go_throw0 {t ik ic : Nat} {names : List String} (hzt : gj_Zok z → gj_thr z) (hcls : Bundle.fit (ct_name t) = true) (hnames : ∀ n ∈ names, Bundle.fit n = true) (hk : Cond.classLink M.y.cls ik (ct_name t) ∈ tw_all) (hini : Cond.initialized (ct_name t) ∈ tw_all)
    (hat : ∀ w ∈ vx_at0 M.y.cls ic (ct_name t) names, w ∈ lw_tbl ∧ gj_tr w = true ∧ vx_ot w = true) (ha : ct_arr t = none) (h0 : t ≠ 0) (hnof : ct_flds t = [])
    (d0 : decode M.cc pc = .ok (.new ik, 3)) (d3 : decode M.cc (pc + 3) = .ok (.dup, 1)) (d4 : decode M.cc (pc + 4) = .ok (.invokespecial ic, 3)) (d7 : decode M.cc (pc + 7) = .ok (.athrow, 1))
    (hout : ∀ x ∈ tableOf M.hh, covers x (pc + 7) = false) (hd : names.length + 3 < d) (hst : (st.map fun v => v.category).sum ≤ 8) (hq : Q (.threw σ.nx) (σ.newO t 6)) : Go z l M d pc ls st σ Q := fun hw => by
  refine ⟨.threw σ.nx, σ.newO t 6, ?_, hw.newO t 6, hp_Le.newO hw t 6, hq⟩
  intro p e R s m args below meth c X la H locs cells slots mc ms hl hr hf e1 e2 e3 e4 T hT XT
  have hz := hzt X.zok
  have n1 : (σ.newO t 6).nx = σ.nx + 1 := rfl
  have n2 : (σ.newO t 6).sl = σ.sl + 6 := rfl
  have hfr := X.frames
  have hlo := X.locals
  have htr : e.platform.stackTraces = false := (show e.platform.stackTraces = l.stackTraces by rw [XT.admits.platform]).trans X.tr
  have Y := vx_rebase XT (R' := { frames := R.frames, locals := R.locals, cells := 1, slots := 6 }) (Nat.le_refl _) (Nat.le_refl _) (by show cells + 1 ≤ R.cells; omega) (by show slots + 6 ≤ R.slots; omega)
  obtain ⟨s', hA⟩ : ∃ z9, z9 = (T.setVm s.vm).setFrames (.invoking m args :: below) := ⟨_, rfl⟩
  rw [← hA] at Y
  have hvm : s'.vm = s.vm := by rw [hA]; rfl
  have hhp : s'.heap = H := by rw [hA]; exact hT
  have hW0 : s.WarmedH s'.vm := by rw [hvm]; exact State.WarmedH.refl s
  have hat' : ∀ w ∈ vx_at0 M.y.cls ic (ct_name t) names, w.before args s' = true := fun w hw9 => vx_ot_at hW0 hvm.symm (hat w hw9).2.2 (X.wordT (hat w hw9).1 (hat w hw9).2.1 args)
  have hk' : (Cond.classLink M.y.cls ik (ct_name t)).before args s' = true := X.wordU hk args hW0
  have hini' : (Cond.initialized (ct_name t)).before args s' = true := X.wordU hini args hW0
  have hkp : ∀ a : Nat, a < z.heap.size → ¬ z.heap.size ≤ a → H[a]? = z.heap[a]? := fun a ha9 _ => hr.2.2.1 a ha9
  have hal : z.vm.Alike s'.vm := by rw [hvm]; exact X.warm.alike
  have hU' : vx_Zq Bundle.tN "UNASSIGNED_STACK" Bundle.steD (fun q => z.heap.size ≤ q) s' s'.heap := by rw [hhp]; exact vx_Zq.moved hal (hz.1.kept hkp)
  have hN' : vx_Zq Bundle.tN "SUPPRESSED_SENTINEL" Bundle.listD (fun q => z.heap.size ≤ q) s' s'.heap := by rw [hhp]; exact vx_Zq.moved hal (hz.2.kept hkp)
  have h : ∀ w ∈ Bundle.ownAtoms0 M.y.cls ic (ct_name t) names, w.before args s' = true := vx_own hat' (vx_isRefq hU'.1) (vx_isRefq hN'.1) hU'.2.word hN'.2.word
  have hown' : s'.vm.findClass M.y.cls = some m.cls := by rw [hvm]; exact X.own
  have hins : (Cond.instantiable (ct_name t) 6).before args s' = true := h _ (by simp [Bundle.ownAtoms0])
  obtain ⟨vm₁, cX, kX, hfX, hkX, -, -, X₁, st1⟩ := Y.newCold X.1 (own := M.y.cls) (C := ct_name t) (index := ik) (n := 6) hown' hk' hins hini'
    (g := F0 m pc la st) rfl (by rw [X.2.1]; exact d0) (Nat.le_refl _) (Nat.le_refl _)
  generalize hT1 : (T.setVm vm₁).pushCell { cls := cX, slots := kX.instanceTypes.map defaultValue, vm := .none } = T1 at X₁ st1
  have hcat : (Value.ref T.heap.size).category = 1 := rfl
  have hcellA : T1.heap[T.heap.size]? = some (freshCell cX kX) := by rw [← hT1]; exact State.heap_pushCell_size _ _
  have d3' : decode c.code (pc + 3) = .ok (.dup, 1) := by rw [X.2.1]; exact d3
  obtain ⟨U, hsteps, hrun, hend, hW, hsame, ce, hce, hO⟩ := X₁.ctorThrow0 X.1 htr (own := M.y.cls) (cls := ct_name t) (names := names) (ic := ic) hown' hcls hnames h (fun x hx => nomatch hx) hfX hkX hcellA (by rw [hhp, hT]; exact Nat.le_refl _)
    (g := { method := m, pc := pc + 4, locals := la, stack := .ref T.heap.size :: .ref T.heap.size :: st, locked := none }) rfl (hl.1.trans X.maxL.symm) rfl rfl (rest := st) rfl
    (by rw [X.2.1]; exact d4) (by rw [X.2.1]; exact d7) (by rw [X.table]; exact hout) (by show names.length + 3 < R.frames; omega) (by simp only [List.map_cons, List.sum_cons, hcat]; show _ ≤ R.locals; omega) X.2.2.2.1
  obtain ⟨f1, f2⟩ := vx_frame hsame
  rw [hhp] at f1 f2
  have hsz : H.size = σ.nx := hr.1
  have hWs : s.WarmedH U.vm := State.WarmedH.trans hW0 hW
  have hcl : s.vm.findClass (ct_name t) = some ce.cls := by
    have h9 := hO.cls
    rw [hvm] at h9
    exact h9
  have hTs : T.heap.size = σ.nx := by rw [hT]; exact hsz
  have hUs : U.heap.size = σ.nx + 1 := by
    have q1 : U.heap.size ≤ s'.heap.size + (0 + 1) := hsame.2.2.1
    have q2 := (Array.getElem?_eq_some_iff.mp hce).1
    rw [hhp] at q1
    omega
  have hall : s.sameButNew ({ U with vm := s.vm } : State) locs mc ms := by
    subst hA
    obtain ⟨e1', e2'⟩ := hsame
    rw [State.setFrames_setFrames] at e1'
    have h2 : (T.setVm s.vm).sameButNew ({ U with vm := s.vm } : State) [] (0 + 1) (0 + 6) := ⟨e1', e2'⟩
    have h3 := XT.same.trans h2
    rw [List.append_nil] at h3
    exact h3.mono (by omega) (by omega)
  have hend' : Ended U below (.threw σ.nx) := by rw [← hTs]; exact hend
  refine ⟨U, ?_, hrun, hend', ?_, hWs, locs, hall, hf⟩
  · refine st1 _ ?_
    show Steps p.tables e below (T1.setTop { method := m, pc := pc + 3, locals := la, stack := .ref T.heap.size :: st, locked := none }) _
    jvm_step X₁.here [X₁.here.top, X.1, d3', Value.category]
    exact hsteps
  · refine hr.push h0 hUs (fun q hq9 => f2 q (by omega) (fun z9 hz9 => nomatch hz9)) rfl (fun _ _ => rfl) rfl rfl rfl rfl rfl rfl rfl ⟨ce, by rw [← hTs]; exact hce, (by rw [hO.vm]; exact vm9.new), hp_cl.obj ha (by rw [← X.warm.alike.findClass]; exact hcl), ?_⟩
    rw [ha, hnof]
    exact fun f hf9 => nomatch hf9
end GjThrow
