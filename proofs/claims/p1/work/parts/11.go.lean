/-! ===== the judgement: from a point of a method's body the machine ends so ===== -/
/-- name, code, locals, return type, handlers -/
abbrev Mt : Type := MethodName × ByteArray × Nat × Option FieldType × List (Nat × Nat × Nat × Nat)
def Mt.y (M : Mt) : MethodName := M.1
def Mt.cc (M : Mt) : ByteArray := M.2.1
def Mt.nL (M : Mt) : Nat := M.2.2.1
def Mt.ret (M : Mt) : Option FieldType := M.2.2.2.1
def Mt.hh (M : Mt) : List (Nat × Nat × Nat × Nat) := M.2.2.2.2
def gj_Zok (z : State) : Prop := ∃ za : Array Value, (∀ w ∈ lw_tbl, w.before za z = true) ∧ (Jvm.Cond.and given_1 narrow_1).before za z = true
def gj_hole : Value := .retAddr 0
/-- the locals, by their places; a hole says nothing -/
def gj_Lv (la : Array Slot) (nL : Nat) (ls : List Value) : Prop := la.size = nL ∧ lv_wf la ∧ ls.length = nL ∧ ∀ (i : Nat) (v : Value), ls[i]? = some v → v ≠ .retAddr 0 → la[i]? = some (.val v)
def gj_Cx (z : State) (l : Launch) (M : Mt) (d : Nat) (p : Program) (R : Room) (s : State) (m : MethodId) (meth : Method) (c : Code) : Prop :=
  p.tables.exec = Jvm.exec ∧ c.code = M.cc ∧ meth.sig.returnType = M.ret ∧ meth.locks = false ∧ c.maxLocals = M.nL ∧ s.vm.findClass M.y.cls = some m.cls ∧ meth.name = M.y.name ∧ c.exceptionTable.toList = tableOf M.hh ∧
  gj_Zok z ∧ z.WarmedH s.vm ∧ l.stackTraces = false ∧ d ≤ R.frames ∧ 60 * d ≤ R.locals
def gj_Fi (z : State) (below : List Frame) (s : State) (mc ms : Nat) (o : Outcome) (σ' : Hp) : State → Prop := fun t =>
  t.status = .running ∧ Ended t below o ∧ hp_Rel z σ' t.heap ∧ s.WarmedH t.vm ∧ ∃ L : List Loc, s.sameButNew ({ t with vm := s.vm } : State) L mc ms ∧ ∀ q ∈ L, z.heap.size ≤ q.base
def gj_En (z : State) (l : Launch) (M : Mt) (d pc : Nat) (ls st : List Value) (σ : Hp) (o : Outcome) (σ' : Hp) : Prop :=
  ∀ (p : Program) (e : Env) (R : Room) (s : State) (m : MethodId) (args : Array Value) (below : List Frame) (meth : Method) (c : Code), gj_Cx z l M d p R s m meth c →
  ∀ (la : Array Slot) (H : Heap) (locs : List Loc) (cells slots mc ms : Nat), gj_Lv la M.nL ls → hp_Rel z σ H → (∀ q ∈ locs, z.heap.size ≤ q.base) → mc + σ.nx = cells + σ'.nx → ms + σ.sl = slots + σ'.sl → mc ≤ R.cells → ms ≤ R.slots →
  W p l e R s m args below meth c H locs cells slots (gj_Fi z below s mc ms o σ') (F0 m pc la st)
/-- the same with q thrown over the frame -/
def gj_Et (z : State) (l : Launch) (M : Mt) (d pc : Nat) (ls : List Value) (q : Nat) (σ : Hp) (o : Outcome) (σ' : Hp) : Prop :=
  ∀ (p : Program) (e : Env) (R : Room) (s : State) (m : MethodId) (args : Array Value) (below : List Frame) (meth : Method) (c : Code), gj_Cx z l M d p R s m meth c →
  ∀ (la : Array Slot) (st : List Value) (H : Heap) (locs : List Loc) (cells slots mc ms : Nat), gj_Lv la M.nL ls → hp_Rel z σ H → (∀ q ∈ locs, z.heap.size ≤ q.base) → mc + σ.nx = cells + σ'.nx → ms + σ.sl = slots + σ'.sl → mc ≤ R.cells → ms ≤ R.slots →
  vx_W p l e R s m args below meth c H locs cells slots (gj_Fi z below s mc ms o σ') (F0 m pc la st) q
def Go (z : State) (l : Launch) (M : Mt) (d pc : Nat) (ls st : List Value) (σ : Hp) (Q : Outcome → Hp → Prop) : Prop :=
  hp_wf σ → ∃ (o : Outcome) (σ' : Hp), gj_En z l M d pc ls st σ o σ' ∧ hp_wf σ' ∧ hp_Le σ σ' ∧ Q o σ'
def GoT (z : State) (l : Launch) (M : Mt) (d pc : Nat) (ls : List Value) (q : Nat) (σ : Hp) (Q : Outcome → Hp → Prop) : Prop :=
  hp_wf σ → ∃ (o : Outcome) (σ' : Hp), gj_Et z l M d pc ls q σ o σ' ∧ hp_wf σ' ∧ hp_Le σ σ' ∧ Q o σ'
section GoBase
variable {z : State} {l : Launch} {M : Mt} {d pc : Nat} {ls st : List Value} {σ : Hp} {Q : Outcome → Hp → Prop}
theorem go_wf (k : hp_wf σ → Go z l M d pc ls st σ Q) : Go z l M d pc ls st σ Q := fun h => k h h
theorem Go.mono {Q' : Outcome → Hp → Prop} (k : Go z l M d pc ls st σ Q) (h : ∀ o σ', hp_Le σ σ' → Q o σ' → Q' o σ') : Go z l M d pc ls st σ Q' := fun hw => by
  obtain ⟨o, σ', h1, h2, h3, h4⟩ := k hw
  exact ⟨o, σ', h1, h2, h3, h _ _ h3 h4⟩
theorem gj_Cx.mono {d' : Nat} (h : d ≤ d') {p : Program} {R : Room} {s : State} {m : MethodId} {meth : Method} {c : Code} (X : gj_Cx z l M d' p R s m meth c) : gj_Cx z l M d p R s m meth c := by
  obtain ⟨h1, h2, h3, h4, h5, h6, h7, h8, h9, h10, h11, h12, h13⟩ := X
  exact ⟨h1, h2, h3, h4, h5, h6, h7, h8, h9, h10, h11, by omega, by omega⟩
theorem Go.deep {d' : Nat} (h : d ≤ d') (k : Go z l M d pc ls st σ Q) : Go z l M d' pc ls st σ Q := fun hw => by
  obtain ⟨o, σ', h1, h2⟩ := k hw
  exact ⟨o, σ', fun p e R s m args below meth c X => h1 p e R s m args below meth c (X.mono h), h2⟩
/-- an instruction that leaves the heap -/
theorem go_lift {pc2 : Nat} {ls2 st2 : List Value}
    (h : ∀ (p : Program) (e : Env) (R : Room) (s : State) (m : MethodId) (args : Array Value) (below : List Frame) (meth : Method) (c : Code) (la : Array Slot) (H : Heap) (locs : List Loc) (cells slots : Nat) (Q' : State → Prop), gj_Cx z l M d p R s m meth c → gj_Lv la M.nL ls → hp_Rel z σ H →
      (∀ la2 : Array Slot, gj_Lv la2 M.nL ls2 → W p l e R s m args below meth c H locs cells slots Q' (F0 m pc2 la2 st2)) → W p l e R s m args below meth c H locs cells slots Q' (F0 m pc la st))
    (k : Go z l M d pc2 ls2 st2 σ Q) : Go z l M d pc ls st σ Q := fun hw => by
  obtain ⟨o, σ', h1, h2⟩ := k hw
  exact ⟨o, σ', fun p e R s m args below meth c X la H locs cells slots mc ms hl hr hf e1 e2 e3 e4 =>
    h p e R s m args below meth c la H locs cells slots _ X hl hr fun la2 hl2 => h1 p e R s m args below meth c X la2 H locs cells slots mc ms hl2 hr hf e1 e2 e3 e4, h2⟩
/-- the same, locals kept -/
theorem go_lift0 {pc2 : Nat} {st2 : List Value}
    (h : ∀ (p : Program) (e : Env) (R : Room) (s : State) (m : MethodId) (args : Array Value) (below : List Frame) (meth : Method) (c : Code) (la : Array Slot) (H : Heap) (locs : List Loc) (cells slots : Nat) (Q' : State → Prop), gj_Cx z l M d p R s m meth c → gj_Lv la M.nL ls → hp_Rel z σ H →
      W p l e R s m args below meth c H locs cells slots Q' (F0 m pc2 la st2) → W p l e R s m args below meth c H locs cells slots Q' (F0 m pc la st))
    (k : Go z l M d pc2 ls st2 σ Q) : Go z l M d pc ls st σ Q :=
  go_lift (fun p e R s m args below meth c la H locs cells slots Q' X hl hr kk => h p e R s m args below meth c la H locs cells slots Q' X hl hr (kk la hl)) k
theorem gj_Lv.get {la : Array Slot} {nL : Nat} (h : gj_Lv la nL ls) {i : Nat} {v : Value} (hv : ls[i]? = some v) (hn : v ≠ .retAddr 0) : la[i]? = some (.val v) := h.2.2.2 i v hv hn
/-- forget a local -/
theorem go_drop (i : Nat) (k : Go z l M d pc (ls.set i (.retAddr 0)) st σ Q) : Go z l M d pc ls st σ Q :=
  go_lift (fun p e R s m args below meth c la H locs cells slots Q' X hl hr kk => kk la ⟨hl.1, hl.2.1, by simpa using hl.2.2.1, fun j v hj hv => by
    rw [List.getElem?_set] at hj
    split at hj
    · split at hj
      · exact absurd (Option.some.inj hj).symm hv
      · cases hj
    · exact hl.2.2.2 j v hj hv⟩) k
def gj_pairs (ls : List Value) : List (Nat × Value) := (List.range ls.length).filterMap fun i => match ls[i]? with
  | some v => if v = .retAddr 0 then none else some (i, v)
  | none => none
theorem gj_pairs_mem {ls : List Value} {i : Nat} {v : Value} : (i, v) ∈ gj_pairs ls ↔ ls[i]? = some v ∧ v ≠ .retAddr 0 := by
  unfold gj_pairs
  rw [List.mem_filterMap]
  constructor
  · rintro ⟨j, hj, h⟩
    split at h
    next w hw =>
      split at h
      next => cases h
      next hne =>
        cases h
        exact ⟨hw, hne⟩
    next => cases h
  · rintro ⟨h1, h2⟩
    have hlt : i < ls.length := (List.getElem?_eq_some_iff.mp h1).1
    refine ⟨i, List.mem_range.mpr hlt, ?_⟩
    rw [h1]
    simp [h2]
theorem gj_Lv.has {la : Array Slot} {nL : Nat} (h : gj_Lv la nL ls) : lv_has la nL (gj_pairs ls) := ⟨h.1, h.2.1, fun q hq => by
  obtain ⟨i, v⟩ := q
  have := gj_pairs_mem.mp hq
  exact h.2.2.2 i v this.1 this.2⟩
/-- a store over a long's second half takes the long away -/
def gj_kill (ls : List Value) (i : Nat) : List Value := match i with
  | 0 => ls
  | j + 1 => match ls[j]? with
    | some (.long _) => ls.set j (.retAddr 0)
    | some (.double _) => ls.set j (.retAddr 0)
    | _ => ls
def gj_st1 (ls : List Value) (i : Nat) (v : Value) : List Value := (gj_kill ls i).set i v
def gj_st2 (ls : List Value) (i : Nat) (v : Value) : List Value := ((gj_kill ls i).set i v).set (i + 1) (.retAddr 0)
theorem gj_kill_len (ls : List Value) (i : Nat) : (gj_kill ls i).length = ls.length := by
  unfold gj_kill
  split
  · rfl
  · split <;> simp
theorem gj_kill_at {ls : List Value} {i j : Nat} {w : Value} (h : (gj_kill ls i)[j]? = some w) (hw : w ≠ .retAddr 0) : ls[j]? = some w ∧ (j + 1 = i → w.category ≠ 2) := by
  unfold gj_kill at h
  split at h
  next => exact ⟨h, fun q => by omega⟩
  next k =>
    have main : ∀ x : Value, ls[k]? = some x → x.category = 2 → (ls.set k (.retAddr 0))[j]? = some w → ls[j]? = some w ∧ (j + 1 = k + 1 → w.category ≠ 2) := by
      intro x hx hc hh
      rw [List.getElem?_set] at hh
      split at hh
      · split at hh
        · exact absurd (Option.some.inj hh).symm hw
        · cases hh
      next hne => exact ⟨hh, fun q => absurd (by omega : k = j) hne⟩
    split at h
    next x hx => exact main _ hx rfl h
    next x hx => exact main _ hx rfl h
    next hl hd =>
      refine ⟨h, fun q => ?_⟩
      have hjk : j = k := by omega
      subst hjk
      cases w with
      | long x => exact absurd h (hl x)
      | double x => exact absurd h (hd x)
      | _ => simp [Value.category]
theorem gj_Lv.st1 {la : Array Slot} {nL i : Nat} {v : Value} (hlen : ls.length = nL) (h : lv_has la nL ((i, v) :: (gj_pairs ls).filter (fun q => !(q.1 == i) && !(q.1 + 1 == i && q.2.category == 2)))) : gj_Lv la nL (gj_st1 ls i v) := by
  refine ⟨h.1, h.2.1, by simp [gj_st1, gj_kill_len, hlen], fun j w hj hw => ?_⟩
  unfold gj_st1 at hj
  rw [List.getElem?_set] at hj
  split at hj
  next hij =>
    split at hj
    · cases hj
      subst hij
      exact h.2.2 (_, _) List.mem_cons_self
    · cases hj
  next hij =>
    obtain ⟨q1, q2⟩ := gj_kill_at hj hw
    refine h.2.2 (j, w) (List.mem_cons_of_mem _ (List.mem_filter.mpr ⟨gj_pairs_mem.mpr ⟨q1, hw⟩, ?_⟩))
    have hne : ¬ j = i := fun q => hij q.symm
    by_cases hji : j + 1 = i
    · have := q2 hji
      simp [hne, this]
    · simp [hne, hji]
theorem gj_Lv.st2 {la : Array Slot} {nL i : Nat} {v : Value} (hlen : ls.length = nL) (h : lv_has la nL ((i, v) :: (gj_pairs ls).filter (fun q => !(q.1 == i) && (!(q.1 == i + 1) && !(q.1 + 1 == i && q.2.category == 2))))) : gj_Lv la nL (gj_st2 ls i v) := by
  refine ⟨h.1, h.2.1, by simp [gj_st2, gj_kill_len, hlen], fun j w hj hw => ?_⟩
  unfold gj_st2 at hj
  rw [List.getElem?_set] at hj
  split at hj
  next hij =>
    split at hj
    · exact absurd (Option.some.inj hj).symm hw
    · cases hj
  next hij1 =>
    rw [List.getElem?_set] at hj
    split at hj
    next hij =>
      split at hj
      · cases hj
        subst hij
        exact h.2.2 (_, _) List.mem_cons_self
      · cases hj
    next hij =>
      obtain ⟨q1, q2⟩ := gj_kill_at hj hw
      refine h.2.2 (j, w) (List.mem_cons_of_mem _ (List.mem_filter.mpr ⟨gj_pairs_mem.mpr ⟨q1, hw⟩, ?_⟩))
      have hne : ¬ j = i := fun q => hij q.symm
      have hne1 : ¬ j = i + 1 := fun q => hij1 q.symm
      by_cases hji : j + 1 = i
      · have := q2 hji
        simp [hne, hne1, this]
      · simp [hne, hne1, hji]
end GoBase
theorem gj_cat1 (x : Option Nat) : (va_rf x).category = 1 := by cases x <;> rfl
theorem gj_st1_rf {ls : List Value} {j : Nat} {x : Option Nat} {v : Value} (h : ls[j]? = some (va_rf x)) : gj_st1 ls (j + 1) v = ls.set (j + 1) v := by
  unfold gj_st1
  have e : gj_kill ls (j + 1) = ls := by
    show (match ls[j]? with
      | some (.long _) => ls.set j (.retAddr 0)
      | some (.double _) => ls.set j (.retAddr 0)
      | _ => ls) = ls
    rw [h]
    cases x <;> rfl
  rw [e]
theorem gj_cats (rest : List Value) : (rest.map fun v => v.category).sum ≤ 2 * rest.length := by
  induction rest with
  | nil => simp
  | cons v t ih =>
    have : v.category ≤ 2 := by cases v <;> simp [Value.category]
    simp only [List.map_cons, List.sum_cons, List.length_cons]
    omega
