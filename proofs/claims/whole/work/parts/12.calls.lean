/-! ===== words, contracts, calls ===== -/
section GjWords
variable {z : State} {l : Launch} {M : Mt} {d : Nat} {p : Program} {R : Room} {s : State} {m : MethodId} {meth : Method} {c : Code}
theorem gj_Cx.word (X : gj_Cx z l M d p R s m meth c) {w : Cond} (hw : w ∈ tw_all) (args : Array Value) : w.before args s = true := by
  obtain ⟨-, -, -, -, -, -, -, -, ⟨za, hz, -⟩, hW, -⟩ := X
  exact word_at hW (good_of_word (tw_good w hw)) (hz w (tw_in w hw))
theorem gj_Cx.wordU (X : gj_Cx z l M d p R s m meth c) {w : Cond} (hw : w ∈ tw_all) (args : Array Value) {U : State} (hU : s.WarmedH U.vm) : w.before args U = true :=
  word_at hU (good_of_word (tw_good w hw)) (X.word hw #[])
theorem gj_Cx.own (X : gj_Cx z l M d p R s m meth c) : s.vm.findClass M.y.cls = some m.cls := X.2.2.2.2.2.1
theorem gj_Cx.zok (X : gj_Cx z l M d p R s m meth c) : gj_Zok z := X.2.2.2.2.2.2.2.2.1
theorem gj_Cx.warm (X : gj_Cx z l M d p R s m meth c) : z.WarmedH s.vm := X.2.2.2.2.2.2.2.2.2.1
theorem gj_Cx.tr (X : gj_Cx z l M d p R s m meth c) : l.stackTraces = false := X.2.2.2.2.2.2.2.2.2.2.1
theorem gj_Cx.frames (X : gj_Cx z l M d p R s m meth c) : d ≤ R.frames := X.2.2.2.2.2.2.2.2.2.2.2.1
theorem gj_Cx.locals (X : gj_Cx z l M d p R s m meth c) : 60 * d ≤ R.locals := X.2.2.2.2.2.2.2.2.2.2.2.2
theorem gj_Cx.maxL (X : gj_Cx z l M d p R s m meth c) : c.maxLocals = M.nL := X.2.2.2.2.1
/-- a word of a nest mate -/
theorem gj_Cx.nestF (X : gj_Cx z l M d p R s m meth c) {a : String} {i : Nat} {b n dd h : String} (hw : Cond.fieldLinkNest a i b n dd h ∈ lw_tbl) (args : Array Value) : (Cond.fieldLinkNest a i b n dd h).before args s = true := by
  obtain ⟨za, hz, -⟩ := X.zok
  exact va_Nw.use rfl (va_Nw.warmF X.warm (va_Nw.of rfl (hz _ hw)))
theorem gj_Cx.nestM (X : gj_Cx z l M d p R s m meth c) {a : String} {i : Nat} {x : MethodName} {h : String} (hw : Cond.methodLinkNest a i x h ∈ lw_tbl) (args : Array Value) : (Cond.methodLinkNest a i x h).before args s = true := by
  obtain ⟨za, hz, -⟩ := X.zok
  exact va_Nw.use rfl (va_Nw.warmM X.warm (va_Nw.of rfl (hz _ hw)))
end GjWords
/-- a method's own word -/
def gj_cw (M : Mt) : Cond := match M.hh with
  | [] => .code M.y M.cc M.nL M.ret
  | _ :: _ => .codeWith M.y M.cc M.nL M.ret M.hh
/-- the locals at a method's entry -/
def gj_args : List Value → List Value
  | [] => []
  | v :: vs => match v with
    | .long _ => v :: .retAddr 0 :: gj_args vs
    | .double _ => v :: .retAddr 0 :: gj_args vs
    | _ => v :: gj_args vs
def gj_ent (n : Nat) (vs : List Value) : List Value := gj_args vs ++ List.replicate (n - (gj_args vs).length) (.retAddr 0)
theorem gj_args_len (vs : List Value) : (gj_args vs).length = (lg_sl vs).length := by
  induction vs with
  | nil => rfl
  | cons v t ih =>
    cases v <;> simp [gj_args, lg_sl, Value.category, List.flatMap_cons] at ih ⊢ <;> omega
theorem gj_args_at (vs : List Value) : ∀ (k i : Nat) (v : Value), (gj_args vs)[i]? = some v → v ≠ .retAddr 0 → (k + i, v) ∈ lv_args k vs := by
  induction vs with
  | nil => intro k i v h; simp [gj_args] at h
  | cons w t ih =>
    intro k i v h hv
    have two : ∀ x : Value, x.category = 2 → (x :: .retAddr 0 :: gj_args t)[i]? = some v → (k + i, v) ∈ lv_args k (x :: t) := by
      intro x hx hh
      match i, hh with
      | 0, hh =>
        simp at hh
        subst hh
        simp [lv_args]
      | 1, hh => simp at hh; exact absurd hh.symm hv
      | j + 2, hh =>
        simp at hh
        have q := ih (k + 2) j v hh hv
        simp only [lv_args, hx]
        refine List.mem_cons_of_mem _ ?_
        rw [show k + (j + 2) = k + 2 + j by omega]
        exact q
    have one : ∀ x : Value, x.category = 1 → (x :: gj_args t)[i]? = some v → (k + i, v) ∈ lv_args k (x :: t) := by
      intro x hx hh
      match i, hh with
      | 0, hh =>
        simp at hh
        subst hh
        simp [lv_args]
      | j + 1, hh =>
        simp at hh
        have q := ih (k + 1) j v hh hv
        simp only [lv_args, hx]
        refine List.mem_cons_of_mem _ ?_
        rw [show k + (j + 1) = k + 1 + j by omega]
        exact q
    cases w with
    | long x => exact two _ rfl h
    | double x => exact two _ rfl h
    | int x => exact one _ rfl h
    | float x => exact one _ rfl h
    | null => exact one _ rfl h
    | ref x => exact one _ rfl h
    | retAddr x => exact one _ rfl h
theorem gj_entry (vs : List Value) {n : Nat} (h : (gj_args vs).length ≤ n) : gj_Lv ((lg_sl vs ++ List.replicate (n - (lg_sl vs).length) Slot.unset).toArray) n (gj_ent n vs) := by
  obtain ⟨h1, h2, h3⟩ := lv_entry vs (n := n) (by rw [← gj_args_len]; exact h)
  refine ⟨h1, h2, by simp [gj_ent]; omega, fun i v hi hv => ?_⟩
  unfold gj_ent at hi
  by_cases hlt : i < (gj_args vs).length
  · rw [List.getElem?_append_left hlt] at hi
    have := gj_args_at vs 0 i v hi hv
    rw [Nat.zero_add] at this
    exact h3 (i, v) this
  · rw [List.getElem?_append_right (by omega)] at hi
    exact absurd (List.eq_of_mem_replicate (List.mem_of_getElem? hi)) hv
/-- a method's contract out of its entry -/
def gj_Pc (z : State) (As : List Value) (σ : Hp) : Array Value → State → Prop := fun a U => a = As.toArray ∧ hp_Rel z σ U.heap ∧ z.WarmedH U.vm
def gj_Qc (z : State) (o : Outcome) (σ' : Hp) (mc ms : Nat) : Array Value → State → Outcome → State → Prop := fun _ st o' t =>
  o' = o ∧ hp_Rel z σ' t.heap ∧ st.WarmedH t.vm ∧ ∃ L : List Loc, st.sameButNew ({ t with vm := st.vm } : State) L mc ms ∧ ∀ q ∈ L, z.heap.size ≤ q.base
def gj_Met (z : State) (l : Launch) (M : Mt) (rm : Room) (As : List Value) (σ : Hp) (o : Outcome) (σ' : Hp) (mc ms : Nat) : Prop :=
  MetFree l M.y (headSpec [gj_cw M] rm) (gj_Pc z As σ) (fun _ _ _ _ _ => True) (gj_Qc z o σ' mc ms)
theorem gj_cw_spec {M : Mt} {args : Array Value} {s : State} (h : (gj_cw M).before args s = true) {m : MethodId} (hn : s.methodNamed? M.y = some m) :
    ∃ meth c, s.vm.method? m = some meth ∧ meth.code = some c ∧ c.code = M.cc ∧ c.maxLocals = M.nL ∧ meth.sig.returnType = M.ret ∧ meth.locks = false ∧ c.exceptionTable.toList = tableOf M.hh ∧ parseMethodDescriptor M.y.desc = some meth.sig := by
  unfold gj_cw at h
  split at h
  next he =>
    obtain ⟨meth, c, h1, h2, h3, h4, h5, h6, h7, h8⟩ := Cond.code_spec hn h
    refine ⟨meth, c, h1, h2, h3, h4, h5, h6, ?_, h8⟩
    rw [he, Array.isEmpty_iff.mp h7]
    rfl
  next x y he =>
    obtain ⟨m', meth, c, h0, h1, h2, h3, h4, h5, h6, h7, h8⟩ := Cond.codeWith_spec h
    cases hn.symm.trans h0
    exact ⟨meth, c, h1, h2, h3, h4, h6, h7, by rw [← h5, table_eq], h8⟩
theorem gj_named {M : Mt} {args : Array Value} {s : State} (h : (gj_cw M).before args s = true) : ∃ mk, s.methodNamed? M.y = some mk := by
  unfold gj_cw at h
  split at h
  next he => exact Cond.code_named h
  next x y he =>
    obtain ⟨m', meth, c, h0, -⟩ := Cond.codeWith_spec h
    exact ⟨m', h0⟩
theorem gj_met {z : State} {l : Launch} {M : Mt} {rm : Room} {As : List Value} {σ σ' : Hp} {o : Outcome} {d mc ms : Nat} (hy : plainName M.y.cls = true) (hz : gj_Zok z) (htr : l.stackTraces = false) (hfr : d ≤ rm.frames) (hlo : 60 * d ≤ rm.locals)
    (hlen : (gj_args As).length ≤ M.nL) (hc : mc + σ.nx = σ'.nx) (hs : ms + σ.sl = σ'.sl) (hrc : mc ≤ rm.cells) (hrs : ms ≤ rm.slots) (h : gj_En z l M d 0 (gj_ent M.nL As) [] σ o σ') : gj_Met z l M rm As σ o σ' mc ms := by
  refine MetFree.of_bodyS (code := M.cc) (maxLocals := M.nL) (ret := M.ret) hy ?_ ?_
  · intro args s m hp hn
    obtain ⟨meth, c, h1, h2, h3, h4, h5, h6, -, -⟩ := gj_cw_spec (atoms_spec (ws := [gj_cw M]) hp _ List.mem_cons_self) hn
    exact ⟨meth, c, h1, h2, h3, h4, h5, h6⟩
  · intro p e s m args below meth c s₁ B hml hP _
    obtain ⟨rfl, hR, hW⟩ := hP
    have hh0 : s₁.heap = s.heap := by rw [B.state]; rfl
    obtain ⟨meth9, c9, h1, h2, h3, h4, h5, h6, h7, h8⟩ := gj_cw_spec (atoms_spec (ws := [gj_cw M]) B.pre _ List.mem_cons_self) B.named
    cases Option.some.inj (h1.symm.trans B.method)
    cases Option.some.inj (h2.symm.trans (Stand.of_body B).code)
    have X : gj_Cx z l M d p rm s m meth c := ⟨B.exec, h3, h5, h6, h4, findClass_of_methodNamed B.named, (name_of_methodNamed B.named B.method).1, h7, hz, hW, htr, hfr, hlo⟩
    obtain ⟨t, a1, b1, b2, b3, b4, b5⟩ := h p e rm s m As.toArray below meth c X _ s.heap [] 0 0 mc ms (gj_entry As hlen) hR (fun q hq => nomatch hq) (by omega) (by omega) hrc hrs s₁ hh0 (Stand.of_body B)
    refine ⟨t, o, ?_, b1, b2, rfl, b3, b4, b5⟩
    rw [lg_entry_eq]
    exact a1
/-- what a call leaves -/
def gj_after (U : State) (g : JFrame) (len : Nat) : Outcome → State
  | .returned v => U.setTop { g with pc := g.pc + len, stack := v.toList ++ g.stack }
  | .threw q => (U.setTop g).pushFrame (.throwing q)
theorem gj_blind (z : State) (As : List Value) (σ : Hp) : FrameBlind (gj_Pc z As σ) := fun _ _ _ _ h => h
section GjBack
variable {l : Launch} {R : Room} {p : Program} {e : Env} {below : List Frame} {s : State} {sargs : Array Value} {z : State} {M : Mt} {As : List Value} {σ σ' : Hp} {o : Outcome}
theorem gj_back {rm : Room} {mc ms len W9 : Nat} (hM : gj_Met z l M rm As σ o σ' mc ms) (hframes : rm.frames + 1 ≤ R.frames) (hlocals : W9 + (M.nL + 11) + rm.locals ≤ R.locals)
    (hcw : ∀ a' U, s.WarmedH U.vm → (gj_cw M).before a' U = true) (hinit : ∀ a' U, s.WarmedH U.vm → (Cond.initialized M.y.cls).before a' U = true)
    {m : MethodId} {meth : Method} {c : Code} {U : State} {Ls : List Loc} {c0 s0 : Nat} {g : JFrame} {ig : Instr} {mk : MethodId} (X : Stand p l e R s m sargs below meth c U Ls c0 s0) (hg : g.method = m) (hsize : g.locals.size = c.maxLocals) (hdg : decode c.code g.pc = .ok (ig, len))
    (hW : 2 * g.monitorRoom + (g.stack.map fun v => v.category).sum ≤ W9) (hn : U.methodNamed? M.y = some mk) (hR : hp_Rel z σ U.heap) (hzU : z.WarmedH U.vm) (hrc : c0 + rm.cells ≤ R.cells) (hrs : s0 + rm.slots ≤ R.slots) :
    ∃ (B : State) (L : List Loc), Stand p l e R s m sargs below meth c B (Ls ++ L) (c0 + mc) (s0 + ms) ∧ hp_Rel z σ' B.heap ∧ (∀ q ∈ L, z.heap.size ≤ q.base) ∧
      Steps p.tables e below (doInvoke e (U.setTop g) [] mk As.toArray).1 (gj_after B g len o) := by
  have h1 : (headSpec [gj_cw M] rm).pre.before As.toArray U = true := atoms_intro fun w hw => by
    rw [List.mem_singleton.mp hw]
    exact hcw _ _ X.warmed
  have h3 : (Cond.initialized M.y.cls).before As.toArray U = true := hinit _ _ X.warmed
  obtain ⟨methY, cY, hmY, hcY, -, hlY, -, -, -, -⟩ := gj_cw_spec (hcw As.toArray U X.warmed) hn
  obtain ⟨kY, hkY, -⟩ := className_of_methodNamed hn
  have hinitY : kY.init = .initialized := Cond.initialized_spec (findClass_of_methodNamed hn) hkY h3
  have h : At U g.method c below := by rw [hg]; exact X.here
  have hlocals9 : W9 + (M.nL + 11) + (headSpec [gj_cw M] rm).room.locals ≤ R.locals := hlocals
  have happ : (headSpec [gj_cw M] rm).appliesLoose M.y e.platform (U.calling g mk As.toArray) = true :=
    Spec.appliesLoose_calling (g := g) h hdg hn hkY hinitY
      (X.room_calling (g := g) (R' := (headSpec [gj_cw M] rm).room) hsize hmY hcY hframes (by rw [hlY]; omega) hrc hrs) h1
  obtain ⟨mid, hmid⟩ := h.above
  have hfr : (U.setTop g).frames = (.java g :: mid) ++ below := by rw [State.frames_setTop' g h.top, hmid]; rfl
  obtain ⟨o9, s₂, hsteps, -, hend, hq⟩ := Steps.callFree hM p X.admits X.cas X.clock (acts := []) hfr happ (gj_blind z As σ _ _ _ _ ⟨rfl, hR, hzU⟩) trivial
  have hq' : gj_Qc z o σ' mc ms As.toArray (U.calling g mk As.toArray) o9 s₂ := hq
  rw [State.frames_setTop' g h.top] at hend
  obtain ⟨g₀, hg0⟩ := Option.isSome_iff_exists.mp h.top
  obtain ⟨r, hr⟩ := State.topJava?_eq_some.mp hg0
  have hr' : (({ U with heap := s₂.heap, slotsUsed := s₂.slotsUsed } : State).setVm s₂.vm).frames = .java g₀ :: r := hr
  obtain ⟨rfl, hR2, hW₂, L, hsm, hL⟩ := hq'
  obtain ⟨e2, q2, q3, q4, q5, q6⟩ := id hsm
  have e3 : s₂ = ({ (U.calling g mk As.toArray).setFrames s₂.frames with heap := s₂.heap, slotsUsed := s₂.slotsUsed } : State).setVm s₂.vm := by
    have : s₂ = ({ s₂ with vm := (U.calling g mk As.toArray).vm } : State).setVm s₂.vm := rfl
    rw [e2] at this
    exact this
  have hW' : U.WarmedH s₂.vm := hW₂
  have hsame : U.sameButNew ({ U with heap := s₂.heap, slotsUsed := s₂.slotsUsed } : State) L mc ms := by
    refine ⟨?_, q2, q3, q4, q5, q6⟩
    obtain ⟨t, ht, -⟩ := State.frames_cons hr
    show ({ U with heap := s₂.heap, slotsUsed := s₂.slotsUsed } : State) = { U.setFrames U.frames with heap := s₂.heap, slotsUsed := s₂.slotsUsed }
    rw [State.setFrames_self ht]
  have hstand : Stand p l e R s m sargs below meth c (({ U with heap := s₂.heap, slotsUsed := s₂.slotsUsed } : State).setVm s₂.vm) (Ls ++ L) (c0 + mc) (s0 + ms) :=
    ⟨X.admits, X.cas, X.clock, X.frames, X.room, X.hears, X.method, X.code, (X.here.setHeapUsed s₂.heap s₂.slotsUsed).setVm hW'.alike, X.tail, State.WarmedH.trans X.warmed hW', X.limits, X.bytes, X.same.trans (hsame.setVm s.vm)⟩
  refine ⟨(({ U with heap := s₂.heap, slotsUsed := s₂.slotsUsed } : State).setVm s₂.vm), L, hstand, hR2, hL, ?_⟩
  cases o9 with
  | returned v =>
    obtain ⟨c₂, i₂, len₂, hc₂, hd₂, hf₂⟩ := hend
    have hcc : c₂ = c := by
      have h1 : s₂.code? g.method = U.code? g.method := by
        rw [State.code?_eq, State.code?_eq, hW'.alike.method?]
      exact Option.some.inj (hc₂.symm.trans (h1.trans h.code))
    subst hcc
    have hlen : len₂ = len := by rw [hdg] at hd₂; cases hd₂; rfl
    subst hlen
    have hs₂ : s₂ = (({ U with heap := s₂.heap, slotsUsed := s₂.slotsUsed } : State).setVm s₂.vm).setTop { g with pc := g.pc + len₂, stack := v.toList ++ g.stack } := by
      refine e3.trans ?_
      rw [hf₂, State.calling_eq h.top, State.setFrames_setFrames, State.setTop_of_frames _ hr', hr]
      rfl
    show Steps p.tables e below _ ((({ U with heap := s₂.heap, slotsUsed := s₂.slotsUsed } : State).setVm s₂.vm).setTop { g with pc := g.pc + len₂, stack := v.toList ++ g.stack })
    rw [← hs₂]
    exact hsteps
  | threw q =>
    have hf₂ : s₂.frames = .throwing q :: .java g :: U.frames.tail := hend
    have hs₂ : s₂ = ((({ U with heap := s₂.heap, slotsUsed := s₂.slotsUsed } : State).setVm s₂.vm).setTop g).pushFrame (.throwing q) := by
      refine e3.trans ?_
      rw [hf₂, State.calling_eq h.top, State.setFrames_setFrames, State.pushFrame, State.frames_setTop _ hr', State.setTop_of_frames _ hr', State.setFrames_setFrames, hr]
      rfl
    show Steps p.tables e below _ (((({ U with heap := s₂.heap, slotsUsed := s₂.slotsUsed } : State).setVm s₂.vm).setTop g).pushFrame (.throwing q))
    rw [← hs₂]
    exact hsteps
end GjBack
/-- the invoking instruction: what it links, and the method that it calls -/
def gj_Lk (z : State) (l : Launch) (M : Mt) (d pc : Nat) (st : List Value) (M' : Mt) (As rest : List Value) (σ : Hp) : Prop :=
  ∀ (p : Program) (e : Env) (R : Room) (s : State) (m : MethodId) (args : Array Value) (below : List Frame) (meth : Method) (c : Code) (T : State) (locs : List Loc) (cells slots : Nat) (la : Array Slot), gj_Cx z l M d p R s m meth c → la.size = M.nL → hp_Rel z σ T.heap → Stand p l e R s m args below meth c T locs cells slots →
    ∃ (vm₁ : Vm) (mk : MethodId) (ig : Instr), Stand p l e R s m args below meth c (T.setVm vm₁) locs cells slots ∧ decode c.code pc = .ok (ig, 3) ∧ (T.setVm vm₁).methodNamed? M'.y = some mk ∧
      ∀ target, (∀ acts, Steps p.tables e below (doInvoke e ((T.setVm vm₁).setTop (F0 m pc la rest)) acts mk As.toArray).1 target) → Steps p.tables e below (T.setTop (F0 m pc la st)) target
/-- how a caller goes on -/
def gj_next (z : State) (l : Launch) (M : Mt) (d pc : Nat) (ls rest : List Value) (Q : Outcome → Hp → Prop) (o : Outcome) (σ1 : Hp) : Prop := match o with
  | .returned v => Go z l M d (pc + 3) ls (v.toList ++ rest) σ1 Q
  | .threw q => GoT z l M d pc ls q σ1 Q
theorem gj_args_rf (x : Option Nat) (vs : List Value) : gj_args (va_rf x :: vs) = va_rf x :: gj_args vs := by cases x <;> rfl
theorem gj_nextI {z : State} {l : Launch} {M : Mt} {d pc : Nat} {ls rest : List Value} {Q : Outcome → Hp → Prop} {v : Value} {σ1 : Hp} (k : Go z l M d (pc + 3) ls (v :: rest) σ1 Q) : gj_next z l M d pc ls rest Q (.returned (some v)) σ1 := k
theorem gj_nextV {z : State} {l : Launch} {M : Mt} {d pc : Nat} {ls rest : List Value} {Q : Outcome → Hp → Prop} {σ1 : Hp} (k : Go z l M d (pc + 3) ls rest σ1 Q) : gj_next z l M d pc ls rest Q (.returned none) σ1 := k
theorem gj_nextT {z : State} {l : Launch} {M : Mt} {d pc q : Nat} {ls rest : List Value} {Q : Outcome → Hp → Prop} {σ1 : Hp} (k : GoT z l M d pc ls q σ1 Q) : gj_next z l M d pc ls rest Q (.threw q) σ1 := k
section GjCall
variable {z : State} {l : Launch} {M M' : Mt} {d d' pc : Nat} {ls st As rest : List Value} {σ : Hp} {Q : Outcome → Hp → Prop}
theorem go_call (hL : gj_Lk z l M d pc st M' As rest σ) (hcw : gj_cw M' ∈ tw_all) (hini : Cond.initialized M'.y.cls ∈ tw_all) (hy : plainName M'.y.cls = true) (hlen : (gj_args As).length ≤ M'.nL) {ls0 : List Value} (hls : gj_ent M'.nL As = ls0) (hd : d' < d) (hW : (rest.map fun v => v.category).sum ≤ 8) (hnL : M'.nL ≤ 41)
    (k : Go z l M' d' 0 ls0 [] σ (fun o σ1 => hp_Le σ σ1 → gj_next z l M d pc ls rest Q o σ1)) : Go z l M d pc ls st σ Q := fun hw => by
  subst hls
  obtain ⟨o1, σ1, he1, hw1, hle1, hk⟩ := k hw
  have hk := hk hle1
  have h1 := hle1.1
  have h2 := hle1.2.1
  obtain ⟨mc1, hmc1⟩ : ∃ x, x + σ.nx = σ1.nx := ⟨σ1.nx - σ.nx, by omega⟩
  obtain ⟨ms1, hms1⟩ : ∃ x, x + σ.sl = σ1.sl := ⟨σ1.sl - σ.sl, by omega⟩
  have main : ∀ (p : Program) (e : Env) (R : Room) (s : State) (m : MethodId) (args : Array Value) (below : List Frame) (meth : Method) (c : Code) (la : Array Slot) (T : State) (locs : List Loc) (cells slots : Nat), gj_Cx z l M d p R s m meth c → la.size = M.nL → hp_Rel z σ T.heap → cells + mc1 ≤ R.cells → slots + ms1 ≤ R.slots →
      Stand p l e R s m args below meth c T locs cells slots → ∃ (B : State) (L : List Loc), Stand p l e R s m args below meth c B (locs ++ L) (cells + mc1) (slots + ms1) ∧ hp_Rel z σ1 B.heap ∧ (∀ q ∈ L, z.heap.size ≤ q.base) ∧
        ∀ t, Steps p.tables e below (gj_after B (F0 m pc la rest) 3 o1) t → Steps p.tables e below (T.setTop (F0 m pc la st)) t := by
    intro p e R s m args below meth c la T locs cells slots X hsz hr hc hs XT
    have hM : gj_Met z l M' { frames := d', locals := 60 * d', cells := mc1, slots := ms1 } As σ o1 σ1 mc1 ms1 := gj_met hy X.zok X.tr (d := d') (Nat.le_refl _) (Nat.le_refl _) hlen hmc1 hms1 (Nat.le_refl _) (Nat.le_refl _) he1
    obtain ⟨vm₁, mk, ig, X₁, hdg, hn, hst⟩ := hL p e R s m args below meth c T locs cells slots la X hsz hr XT
    have hf := X.frames
    have hlo := X.locals
    obtain ⟨B, L, XB, hRB, hLf, hsteps⟩ := gj_back hM (W9 := 8) (show d' + 1 ≤ R.frames by omega) (show 8 + (M'.nL + 11) + 60 * d' ≤ R.locals by omega) (fun a' U hU => X.wordU hcw a' hU) (fun a' U hU => X.wordU hini a' hU) X₁ (g := F0 m pc la rest) rfl (hsz.trans X.maxL.symm) hdg
      (show 2 * 0 + (rest.map fun v => v.category).sum ≤ 8 by omega) hn hr (State.WarmedH.trans X.warm X₁.warmed) hc hs
    exact ⟨B, L, XB, hRB, hLf, fun t ht => hst t fun acts => by rw [doInvoke_state]; exact hsteps.trans ht⟩
  cases o1 with
  | returned v =>
    obtain ⟨o, σ', he, hw', hle, hq⟩ := hk hw1
    have h3 := hle.1
    have h4 := hle.2.1
    refine ⟨o, σ', ?_, hw', hle1.trans hle, hq⟩
    intro p e R s m args below meth c X la H locs cells slots mc ms hl hr hf e1 e2 e3 e4 T hT XT
    obtain ⟨B, L, XB, hRB, hLf, hst⟩ := main p e R s m args below meth c la T locs cells slots X hl.1 (by rw [hT]; exact hr) (by omega) (by omega) XT
    obtain ⟨t, a1, b1⟩ := he p e R s m args below meth c X la B.heap (locs ++ L) (cells + mc1) (slots + ms1) mc ms hl hRB (fun q hq => (List.mem_append.mp hq).elim (hf q) (hLf q)) (by omega) (by omega) e3 e4 B rfl XB
    exact ⟨t, hst t a1, b1⟩
  | threw q =>
    obtain ⟨o, σ', he, hw', hle, hq⟩ := hk hw1
    have h3 := hle.1
    have h4 := hle.2.1
    refine ⟨o, σ', ?_, hw', hle1.trans hle, hq⟩
    intro p e R s m args below meth c X la H locs cells slots mc ms hl hr hf e1 e2 e3 e4 T hT XT
    obtain ⟨B, L, XB, hRB, hLf, hst⟩ := main p e R s m args below meth c la T locs cells slots X hl.1 (by rw [hT]; exact hr) (by omega) (by omega) XT
    obtain ⟨t, a1, b1⟩ := he p e R s m args below meth c X la rest B.heap (locs ++ L) (cells + mc1) (slots + ms1) mc ms hl hRB (fun q hq => (List.mem_append.mp hq).elim (hf q) (hLf q)) (by omega) (by omega) e3 e4 B rfl XB
    exact ⟨t, hst t a1, b1⟩
/-- how many parameters a descriptor has -/
def gj_np (y : MethodName) : Option Nat := (parseMethodDescriptor y.desc).map (fun q => q.parameters.length)
theorem gj_np_of {y : MethodName} {n : Nat} (h : gj_np y = some n) {As : List Value} (hA : As.length = n) : ∀ sig, parseMethodDescriptor y.desc = some sig → As.length = sig.parameters.length := fun sig hs => by
  unfold gj_np at h
  rw [hs] at h
  exact hA.trans (Option.some.inj h).symm
def gj_plain (y : MethodName) : Prop := y.cls ≠ "java/lang/invoke/MethodHandle" ∧ y.cls ≠ "java/lang/invoke/VarHandle"
theorem gj_lkS {index : Nat} (hw1 : Cond.methodLink M.y.cls index M'.y ∈ tw_all) (hw2 : Cond.static M'.y ∈ tw_all) (hini : Cond.initialized M'.y.cls ∈ tw_all) (hcw : gj_cw M' ∈ tw_all) (hy : gj_plain M'.y) (hn : gj_np M'.y = some As.length) (hd : decode M.cc pc = .ok (.invokestatic index, 3)) :
    gj_Lk z l M d pc (As.reverse ++ rest) M' As rest σ := by
  intro p e R s m args below meth c T locs cells slots la X hsz hr XT
  have hd' : decode c.code pc = .ok (.invokestatic index, 3) := by rw [X.2.1]; exact hd
  obtain ⟨mk, methM, hnamed, hmethM⟩ : ∃ mk methM, s.methodNamed? M'.y = some mk ∧ s.vm.method? mk = some methM := by
    obtain ⟨mk, hnamed⟩ := gj_named (X.word hcw args)
    obtain ⟨methM, cM, hmethM, -⟩ := gj_cw_spec (X.word hcw args) hnamed
    exact ⟨mk, methM, hnamed, hmethM⟩
  obtain ⟨methM', cM, hmethM', -, -, -, -, -, -, hsigM⟩ := gj_cw_spec (X.word hcw args) hnamed
  cases hmethM.symm.trans hmethM'
  have hstatic : methM.isStatic = true := Cond.static_spec hnamed hmethM (X.word hw2 args)
  obtain ⟨kP, hkP, -⟩ := className_of_methodNamed hnamed
  have hinitP : kP.init = .initialized := Cond.initialized_spec (findClass_of_methodNamed hnamed) hkP (X.word hini args)
  obtain ⟨vm₁, X₁, hstep₁⟩ := XT.invokestatic X.1 X.own (X.word hw1 args) hnamed hmethM hstatic hkP hinitP hy (g := F0 m pc la (As.reverse ++ rest)) rfl (argsL := As) (rest := rest) (gj_np_of hn rfl _ hsigM) rfl hd'
  exact ⟨vm₁, mk, _, X₁, hd', X₁.named hnamed, hstep₁⟩
theorem gj_lkSN {index : Nat} {host : String} (hw1 : Cond.methodLinkNest M.y.cls index M'.y host ∈ lw_tbl) (hw2 : Cond.static M'.y ∈ tw_all) (hini : Cond.initialized M'.y.cls ∈ tw_all) (hcw : gj_cw M' ∈ tw_all) (hy : gj_plain M'.y) (hn : gj_np M'.y = some As.length) (hd : decode M.cc pc = .ok (.invokestatic index, 3)) :
    gj_Lk z l M d pc (As.reverse ++ rest) M' As rest σ := by
  intro p e R s m args below meth c T locs cells slots la X hsz hr XT
  have hd' : decode c.code pc = .ok (.invokestatic index, 3) := by rw [X.2.1]; exact hd
  obtain ⟨mk, hnamed⟩ := gj_named (X.word hcw args)
  obtain ⟨methM, cM, hmethM, -, -, -, -, -, -, hsigM⟩ := gj_cw_spec (X.word hcw args) hnamed
  have hstatic : methM.isStatic = true := Cond.static_spec hnamed hmethM (X.word hw2 args)
  obtain ⟨kP, hkP, -⟩ := className_of_methodNamed hnamed
  have hinitP : kP.init = .initialized := Cond.initialized_spec (findClass_of_methodNamed hnamed) hkP (X.word hini args)
  obtain ⟨vm₁, X₁, hstep₁⟩ := XT.invokestaticNest X.1 X.own (X.nestM hw1 args) hnamed hmethM hstatic hkP hinitP hy (g := F0 m pc la (As.reverse ++ rest)) rfl (argsL := As) (rest := rest) (gj_np_of hn rfl _ hsigM) rfl hd'
  exact ⟨vm₁, mk, _, X₁, hd', X₁.named hnamed, hstep₁⟩
/-- the receiver's cell -/
theorem gj_recv {b t : Nat} {T : State} (ht : σ.tag b = t) (h0 : t ≠ 0) (hr : hp_Rel z σ T.heap) {s : State} (hW : z.WarmedH s.vm) (hna : ct_arr t = none) : ∃ cellB : Cell, T.heap[b]? = some cellB ∧ vm9 z b cellB.vm ∧ s.vm.findClass (ct_name t) = some cellB.cls := by
  obtain ⟨cell, q1, q2, q3, -⟩ := hr.2.2.2.1 b (by rw [ht]; exact h0)
  rw [ht] at q3
  exact ⟨cell, q1, q2, by rw [hW.alike.findClass]; exact q3.1 (Or.inl hna)⟩
theorem gj_lkV {index b t : Nat} (hw1 : Cond.methodLink M.y.cls index M'.y ∈ tw_all) (hw2 : Cond.instanceMethod M'.y ∈ tw_all) (hw3 : Cond.selects (ct_name t) M'.y M'.y ∈ tw_all) (hcw : gj_cw M' ∈ tw_all) (hy : gj_plain M'.y) (hn : gj_np M'.y = some As.length) (hd : decode M.cc pc = .ok (.invokevirtual index, 3)) (ht : σ.tag b = t) (h0 : t ≠ 0) (hna : ct_arr t = none := by decide +kernel) :
    gj_Lk z l M d pc (As.reverse ++ .ref b :: rest) M' (.ref b :: As) rest σ := by
  intro p e R s m args below meth c T locs cells slots la X hsz hr XT
  have hd' : decode c.code pc = .ok (.invokevirtual index, 3) := by rw [X.2.1]; exact hd
  obtain ⟨cellB, hcell, hvm, hcls⟩ := gj_recv ht h0 hr X.warm hna
  obtain ⟨mk, methM, hnamed, hmethM, hstM, habM⟩ := Cond.instanceMethod_spec (X.word hw2 args)
  obtain ⟨methM', cM, hmethM', -, -, -, -, -, -, hsigM⟩ := gj_cw_spec (X.word hcw args) hnamed
  cases hmethM.symm.trans hmethM'
  obtain ⟨c2, r2, m2, q1, q2, q3, q4, kP, hkP, hkPi⟩ := Cond.selects_spec (X.word hw3 args)
  cases hcls.symm.trans q1
  cases (State.methodFound?_of_named hnamed hy).symm.trans q2
  cases hnamed.symm.trans q3
  have hselP : selectMethod e.platform s.vm cellB.cls mk = .method mk := by rw [Launch.admits_selectMethod XT.admits]; exact q4
  obtain ⟨vm₁, X₁, hstep₁⟩ := XT.invokevirtual X.1 X.own (X.word hw1 args) hnamed hmethM hstM hkP hkPi hy (a := b) (cell := cellB) hcell
    (fun _ h => hvm.ns _ h) hselP hmethM habM hkP hkPi (g := F0 m pc la (As.reverse ++ .ref b :: rest)) rfl (argsL := As) (rest := rest) (gj_np_of hn rfl _ hsigM) rfl hd'
  exact ⟨vm₁, mk, _, X₁, hd', X₁.named hnamed, hstep₁⟩
theorem gj_lkVN {index b t : Nat} {host : String} (hw1 : Cond.methodLinkNest M.y.cls index M'.y host ∈ lw_tbl) (hw2 : Cond.instanceMethod M'.y ∈ tw_all) (hw3 : Cond.selects (ct_name t) M'.y M'.y ∈ tw_all) (hcw : gj_cw M' ∈ tw_all) (hy : gj_plain M'.y) (hn : gj_np M'.y = some As.length) (hd : decode M.cc pc = .ok (.invokevirtual index, 3)) (ht : σ.tag b = t) (h0 : t ≠ 0) (hna : ct_arr t = none := by decide +kernel) :
    gj_Lk z l M d pc (As.reverse ++ .ref b :: rest) M' (.ref b :: As) rest σ := by
  intro p e R s m args below meth c T locs cells slots la X hsz hr XT
  have hd' : decode c.code pc = .ok (.invokevirtual index, 3) := by rw [X.2.1]; exact hd
  obtain ⟨cellB, hcell, hvm, hcls⟩ := gj_recv ht h0 hr X.warm hna
  obtain ⟨mk, methM, hnamed, hmethM, hstM, habM⟩ := Cond.instanceMethod_spec (X.word hw2 args)
  obtain ⟨methM', cM, hmethM', -, -, -, -, -, -, hsigM⟩ := gj_cw_spec (X.word hcw args) hnamed
  cases hmethM.symm.trans hmethM'
  obtain ⟨c2, r2, m2, q1, q2, q3, q4, kP, hkP, hkPi⟩ := Cond.selects_spec (X.word hw3 args)
  cases hcls.symm.trans q1
  cases (State.methodFound?_of_named hnamed hy).symm.trans q2
  cases hnamed.symm.trans q3
  have hselP : selectMethod e.platform s.vm cellB.cls mk = .method mk := by rw [Launch.admits_selectMethod XT.admits]; exact q4
  obtain ⟨vm₁, X₁, hstep₁⟩ := XT.invokevirtualNest X.1 X.own (X.nestM hw1 args) hnamed hmethM hstM hkP hkPi hy (a := b) (cell := cellB) hcell
    (fun _ h => hvm.ns _ h) hselP hmethM habM hkP hkPi (g := F0 m pc la (As.reverse ++ .ref b :: rest)) rfl (argsL := As) (rest := rest) (gj_np_of hn rfl _ hsigM) rfl hd'
  exact ⟨vm₁, mk, _, X₁, hd', X₁.named hnamed, hstep₁⟩
end GjCall
section GjInit
variable {z : State} {l : Launch} {M M' : Mt} {d d' pc : Nat} {ls st As rest : List Value} {σ : Hp} {Q : Outcome → Hp → Prop}
theorem gj_lkI {index b : Nat} (hw1 : Cond.methodLink M.y.cls index M'.y ∈ tw_all) (hw2 : Cond.instanceMethod M'.y ∈ tw_all) (hcw : Cond.code M'.y M'.cc M'.nL none ∈ tw_all) (hy : gj_plain M'.y) (hi : M'.y.name = "<init>") (hn : gj_np M'.y = some As.length) (hd : decode M.cc pc = .ok (.invokespecial index, 3)) :
    gj_Lk z l M d pc (As.reverse ++ .ref b :: rest) M' (.ref b :: As) rest σ := by
  intro p e R s m args below meth c T locs cells slots la X hsz hr XT
  have hd' : decode c.code pc = .ok (.invokespecial index, 3) := by rw [X.2.1]; exact hd
  have hpl : e.platform.magicAccessors = ({} : Platform).magicAccessors := by rw [XT.admits.platform]
  obtain ⟨mk, methM, cM, kP, vm₁, hnamed, hmethM, hcodeM, -, hlocalsM, -, hkP, -, hW₁, hstep₁⟩ := Steps.initColdArgs (e := e) XT.here X.1 XT.warmed hpl X.own hi hy (X.word hw1 args) (X.word hw2 args) (X.word hcw args) (f := F0 m pc la (As.reverse ++ .ref b :: rest)) rfl (argsL := As) (rest := rest) (gj_np_of hn rfl) rfl hd'
  have X₁ := XT.noted hW₁
  exact ⟨vm₁, mk, _, X₁, hd', X₁.named hnamed, hstep₁⟩
theorem gj_lkIN {index b : Nat} {host : String} (hw1 : Cond.methodLinkNest M.y.cls index M'.y host ∈ lw_tbl) (hw2 : Cond.instanceMethod M'.y ∈ tw_all) (hcw : Cond.code M'.y M'.cc M'.nL none ∈ tw_all) (hy : gj_plain M'.y) (hi : M'.y.name = "<init>") (hn : gj_np M'.y = some As.length) (hd : decode M.cc pc = .ok (.invokespecial index, 3)) :
    gj_Lk z l M d pc (As.reverse ++ .ref b :: rest) M' (.ref b :: As) rest σ := by
  intro p e R s m args below meth c T locs cells slots la X hsz hr XT
  have hd' : decode c.code pc = .ok (.invokespecial index, 3) := by rw [X.2.1]; exact hd
  have hpl : e.platform.magicAccessors = ({} : Platform).magicAccessors := by rw [XT.admits.platform]
  obtain ⟨mk, methM, cM, kP, vm₁, hnamed, hmethM, hcodeM, -, hlocalsM, -, hkP, -, hW₁, hstep₁⟩ := Steps.initColdArgsNest (e := e) XT.here X.1 XT.warmed hpl X.own hi hy (X.nestM hw1 args) (X.word hw2 args) (X.word hcw args) (f := F0 m pc la (As.reverse ++ .ref b :: rest)) rfl (argsL := As) (rest := rest) (gj_np_of hn rfl) rfl hd'
  have X₁ := XT.noted hW₁
  exact ⟨vm₁, mk, _, X₁, hd', X₁.named hnamed, hstep₁⟩
/-- Object's own constructor -/
theorem go_objInit {index b : Nat} (hw1 : Cond.methodLink M.y.cls index Lib.objectInit ∈ tw_all) (hw2 : Cond.instanceMethod Lib.objectInit ∈ tw_all) (hw3 : Cond.code Lib.objectInit ⟨#[0xb1]⟩ 1 none ∈ tw_all) (hd : decode M.cc pc = .ok (.invokespecial index, 3)) (hdp : 1 ≤ d) (hrest : (rest.map fun v => v.category).sum ≤ 40)
    (k : Go z l M d (pc + 3) ls rest σ Q) : Go z l M d pc ls (.ref b :: rest) σ Q :=
  go_lift0 (fun p e R s m args below meth c la H locs cells slots Q' X hl hr kk => by
    have hf := X.frames
    have hlo := X.locals
    exact W.objInit X.1 X.2.1 X.own (X.word hw1 args) (X.word hw2 args) (X.word hw3 args) (g := F0 m pc la (.ref b :: rest)) rfl (hl.1.trans X.maxL.symm) rfl hd (by omega) (show 2 * 0 + (rest.map fun v => v.category).sum + 12 ≤ R.locals by omega) kk) k
end GjInit
