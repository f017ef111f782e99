/-! ===== Math: max, min, abs ===== -/
section GjMath
variable {z : State} {l : Launch} {M : Mt} {d pc : Nat} {ls st : List Value} {σ : Hp} {Q : Outcome → Hp → Prop}
theorem go_mmax {index : Nat} {x y : Int32} (hw1 : Cond.methodLink M.y.cls index Lib.Math.max.name ∈ tw_all) (hw2 : Cond.static Lib.Math.max.name ∈ tw_all) (hw3 : Cond.initialized "java/lang/Math" ∈ tw_all) (hw4 : Cond.code Lib.Math.max.name Lib.Math.max.code 2 (some .int) ∈ tw_all) (hd : decode M.cc pc = .ok (.invokestatic index, 3)) (hdp : 1 ≤ d) (hst : (st.map fun v => v.category).sum ≤ 8) (k : Go z l M d (pc + 3) ls (.int (if x < y then y else x) :: st) σ Q) : Go z l M d pc ls (.int y :: .int x :: st) σ Q := by
  refine go_heap id (fun _ => hp_Le.rfl' σ) (fun p e R s m args below meth c la H locs cells slots Q' X hl hr hfr h1 h2 kk => ?_) k
  have hf := X.frames
  have hlo := X.locals
  rw [Nat.sub_self] at h1 h2
  rw [Nat.sub_self, Nat.sub_self] at kk
  exact va_mmax X.1 X.2.1 (X.maxL.trans hl.1.symm) X.own (X.word hw1 args) (X.word hw2 args) (X.word hw3 args) (X.word hw4 args) (by omega) (by omega) h1 h2 hd (kk H locs hr hfr)
theorem go_mmin {index : Nat} {x y : Int32} (hw1 : Cond.methodLink M.y.cls index Lib.Math.min.name ∈ tw_all) (hw2 : Cond.static Lib.Math.min.name ∈ tw_all) (hw3 : Cond.initialized "java/lang/Math" ∈ tw_all) (hw4 : Cond.code Lib.Math.min.name Lib.Math.min.code 2 (some .int) ∈ tw_all) (hd : decode M.cc pc = .ok (.invokestatic index, 3)) (hdp : 1 ≤ d) (hst : (st.map fun v => v.category).sum ≤ 8) (k : Go z l M d (pc + 3) ls (.int (if y < x then y else x) :: st) σ Q) : Go z l M d pc ls (.int y :: .int x :: st) σ Q := by
  refine go_heap id (fun _ => hp_Le.rfl' σ) (fun p e R s m args below meth c la H locs cells slots Q' X hl hr hfr h1 h2 kk => ?_) k
  have hf := X.frames
  have hlo := X.locals
  rw [Nat.sub_self] at h1 h2
  rw [Nat.sub_self, Nat.sub_self] at kk
  exact va_mmin X.1 X.2.1 (X.maxL.trans hl.1.symm) X.own (X.word hw1 args) (X.word hw2 args) (X.word hw3 args) (X.word hw4 args) (by omega) (by omega) h1 h2 hd (kk H locs hr hfr)
theorem go_mmaxL {index : Nat} {x y : Int64} (hw1 : Cond.methodLink M.y.cls index Lib.MathLoose.max_long.x ∈ tw_all) (hw2 : Cond.static Lib.MathLoose.max_long.x ∈ tw_all) (hw3 : Cond.initialized "java/lang/Math" ∈ tw_all) (hw4 : Cond.code Lib.MathLoose.max_long.x Lib.MathLoose.max_long.code 4 (some .long) ∈ tw_all) (hd : decode M.cc pc = .ok (.invokestatic index, 3)) (hdp : 1 ≤ d) (hst : (st.map fun v => v.category).sum ≤ 8) (k : Go z l M d (pc + 3) ls (.long (if y < x then x else y) :: st) σ Q) : Go z l M d pc ls (.long y :: .long x :: st) σ Q := by
  refine go_heap id (fun _ => hp_Le.rfl' σ) (fun p e R s m args below meth c la H locs cells slots Q' X hl hr hfr h1 h2 kk => ?_) k
  have hf := X.frames
  have hlo := X.locals
  rw [Nat.sub_self] at h1 h2
  rw [Nat.sub_self, Nat.sub_self] at kk
  exact va_mmax_long X.1 X.2.1 (X.maxL.trans hl.1.symm) X.own (X.word hw1 args) (X.word hw2 args) (X.word hw3 args) (X.word hw4 args) (by omega) (by omega) h1 h2 hd (kk H locs hr hfr)
theorem go_mminL {index : Nat} {x y : Int64} (hw1 : Cond.methodLink M.y.cls index Lib.MathLoose.min_long.x ∈ tw_all) (hw2 : Cond.static Lib.MathLoose.min_long.x ∈ tw_all) (hw3 : Cond.initialized "java/lang/Math" ∈ tw_all) (hw4 : Cond.code Lib.MathLoose.min_long.x Lib.MathLoose.min_long.code 4 (some .long) ∈ tw_all) (hd : decode M.cc pc = .ok (.invokestatic index, 3)) (hdp : 1 ≤ d) (hst : (st.map fun v => v.category).sum ≤ 8) (k : Go z l M d (pc + 3) ls (.long (if y < x then y else x) :: st) σ Q) : Go z l M d pc ls (.long y :: .long x :: st) σ Q := by
  refine go_heap id (fun _ => hp_Le.rfl' σ) (fun p e R s m args below meth c la H locs cells slots Q' X hl hr hfr h1 h2 kk => ?_) k
  have hf := X.frames
  have hlo := X.locals
  rw [Nat.sub_self] at h1 h2
  rw [Nat.sub_self, Nat.sub_self] at kk
  exact va_mmin_long X.1 X.2.1 (X.maxL.trans hl.1.symm) X.own (X.word hw1 args) (X.word hw2 args) (X.word hw3 args) (X.word hw4 args) (by omega) (by omega) h1 h2 hd (kk H locs hr hfr)
theorem go_mabsL {index : Nat} {x : Int64} (hw1 : Cond.methodLink M.y.cls index Lib.MathLoose.abs_long.x ∈ tw_all) (hw2 : Cond.static Lib.MathLoose.abs_long.x ∈ tw_all) (hw3 : Cond.initialized "java/lang/Math" ∈ tw_all) (hw4 : Cond.code Lib.MathLoose.abs_long.x Lib.MathLoose.abs_long.code 2 (some .long) ∈ tw_all) (hd : decode M.cc pc = .ok (.invokestatic index, 3)) (hdp : 1 ≤ d) (hst : (st.map fun v => v.category).sum ≤ 8) (k : Go z l M d (pc + 3) ls (.long (if 0 < x then x else -x) :: st) σ Q) : Go z l M d pc ls (.long x :: st) σ Q := by
  refine go_heap id (fun _ => hp_Le.rfl' σ) (fun p e R s m args below meth c la H locs cells slots Q' X hl hr hfr h1 h2 kk => ?_) k
  have hf := X.frames
  have hlo := X.locals
  rw [Nat.sub_self] at h1 h2
  rw [Nat.sub_self, Nat.sub_self] at kk
  exact va_mabs_long X.1 X.2.1 (X.maxL.trans hl.1.symm) X.own (X.word hw1 args) (X.word hw2 args) (X.word hw3 args) (X.word hw4 args) (by omega) (by omega) h1 h2 hd (kk H locs hr hfr)
end GjMath
