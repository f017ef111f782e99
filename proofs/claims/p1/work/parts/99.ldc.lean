/-! ===== string constants, resolved at the law's start ===== -/
theorem gj_ldcS {p : Program} {l : Launch} {e : Env} {R : Room} {s : State} {m : MethodId} {args : Array Value} {below : List Frame} {meth : Method} {c : Code} {H : Heap} {locs : List Loc} {cells slots : Nat} {Q : State → Prop} {cc : ByteArray} (hexec : p.tables.exec = Jvm.exec) (hb : c.code = cc) {own text : String} {index : Nat} {a : Nat} (hown : s.vm.findClass own = some m.cls) (hconst : (Cond.stringRef own index text).before args s = true) (hev : (Term.string own index).eval args s none [] s = some (.ref a)) {g : JFrame} (hg : g.method = m) (hdg : decode cc g.pc = .ok (.ldc index, 2))
    (k : W p l e R s m args below meth c H locs cells slots Q { g with pc := g.pc + 2, stack := .ref a :: g.stack }) : W p l e R s m args below meth c H locs cells slots Q g := by
  intro T hT X
  obtain ⟨t, a', b⟩ := k T hT X
  exact ⟨t, X.ldcString hexec hown hconst hev hg (by rw [hb]; exact hdg) t a', b⟩
/-- the string of a constant -/
def strZ (z : State) (own : String) (index : Nat) : Nat := match z.resolvedAt? own index with
  | some (.string a) => a
  | _ => 0
theorem strZ_ok {z : State} {own text : String} {index : Nat} {za : Array Value} (h : (Cond.stringRef own index text).before za z = true) : z.resolvedAt? own index = some (.string (strZ z own index)) := by
  have h' := h
  simp only [Cond.before, Cond.holds, Cond.value] at h'
  unfold strZ
  cases hr : z.resolvedAt? own index with
  | none => simp [hr] at h'
  | some x => cases x <;> simp_all
theorem str_ev {z s : State} {own : String} {index a : Nat} {args : Array Value} (hw : z.WarmedH s.vm) (L : z.resolvedAt? own index = some (.string a)) : (Term.string own index).eval args s none [] s = some (.ref a) := by
  have r : s.resolvedAt? own index = some (.string a) := State.resolvedAt?_warmed hw L
  simp only [State.resolvedAt?, Option.bind_eq_bind] at r
  simp only [Term.eval, Option.bind_eq_bind]
  cases h1 : s.vm.findClass own with
  | none => simp [h1] at r
  | some cc =>
    cases h2 : s.vm.classes[cc]? with
    | none => simp [h1, h2] at r
    | some kk => simp only [h1, h2, Option.bind_some] at r ⊢; rw [r]; rfl
theorem go_ldcS {z : State} {l : Launch} {M : Mt} {d pc : Nat} {ls st : List Value} {σ : Hp} {Q : Outcome → Hp → Prop} {i : Nat} {text : String} (hw : Cond.stringRef M.y.cls i text ∈ lw_tbl) (hd : decode M.cc pc = .ok (.ldc i, 2)) (k : Go z l M d (pc + 2) ls (.ref (strZ z M.y.cls i) :: st) σ Q) : Go z l M d pc ls st σ Q :=
  go_lift0 (fun p e R s m args below meth c la H locs cells slots Q' X hl hr kk => by
    obtain ⟨za, hz1, -⟩ := X.zok
    have q := Cond.stringRef_warmed X.warm (hz1 _ hw)
    have L := strZ_ok (hz1 _ hw)
    exact gj_ldcS X.1 X.2.1 X.own (text := text) (by simp only [Cond.before, Cond.holds, Cond.value] at q ⊢; exact q) (str_ev X.warm L) (g := F0 m pc la st) rfl hd kk) k
