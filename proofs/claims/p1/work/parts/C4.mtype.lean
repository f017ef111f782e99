/-! ===== the reference's checker: kinds of one node ===== -/
abbrev k4 (k : Int32) : Prop := k = 0 ∨ k = 1 ∨ k = 2 ∨ k = 3
theorem mty_0 {k : Int32} (h : k4 k) : mty k = 0 ↔ k = 3 := by
  rcases h with rfl | rfl | rfl | rfl <;> decide
theorem mty_inj {a b : Int32} (h : k4 a) (g : k4 b) : mty a = mty b ↔ a = b := by
  rcases h with rfl | rfl | rfl | rfl <;> rcases g with rfl | rfl | rfl | rfl <;> decide
theorem k4_5 {k : Int32} (h : k4 k) : ¬ k = 5 := by
  rcases h with rfl | rfl | rfl | rfl <;> decide
theorem kl_one {o n : Nat} : ∀ (ks : List Int32) (i : Nat) (s : Int32), (sp_kl o n ks i s 1).1 = 1
  | [], _, _ => rfl
  | k :: ks, i, s => by
    unfold sp_kl
    split
    · rw [ite_self]; exact kl_one ks _ _
    · rw [ite_self]; exact kl_one ks _ _
theorem drop_at {α : Type} {ks : List α} {i : Nat} {x : α} (h : i < ks.length) : ks.drop i = ks.getD i x :: ks.drop (i + 1) := by
  rw [List.drop_eq_getElem_cons h]
  congr 1
  simp [List.getD, h]
/-- a node whose parts' kinds are ks -/
def NT (σ : Hp) (n b : Nat) (op kd : Int32) (ps : List Nat) (cap : Nat) (ks : List Int32) : Prop := ND σ n b op kd ps cap ∧ ks.length = ps.length ∧ (ps.length ≤ 100 ∧ cap ≤ 1000) ∧ ∀ i, i < ps.length → σ.tag (ps.getD i 0) = 9 ∧ σ.I 69 (ps.getD i 0) = mty (ks.getD i 0) ∧ k4 (ks.getD i 0)
theorem NT.d9 {σ : Hp} {n b cap : Nat} {op kd : Int32} {ps : List Nat} {ks : List Int32} (h : NT σ n b op kd ps cap ks) : ∃ q, σ.tag q = 9 := ⟨n, h.1.1⟩
section MType
variable {z : State} {l : Launch} {d : Nat} {σ : Hp} {am : Nat → Nat} {w : Wd} {Q : Outcome → Hp → Prop} {n b cap : Nat} {op kd : Int32} {ps : List Nat} {ks : List Int32}
theorem mo_fits {x y : Int32} (hc : CM z σ am) (hl : MLk w am) (hx : k4 x) (hy : k4 y) (k0 : sp_fits x y → Q (.returned none) (ov σ am 7 w)) (k1 : ¬ sp_fits x y → Q (.threw (am 1)) (ov σ am 7 (w.setI 1 79 1))) :
    Go z l mt_M_fits (d + 9) 0 [.ref (am 0), .int (mty x), .int (mty y)] [] (ov σ am 7 w) Q := by
  refine cm_M_fits hc hl (fun q => k0 (Or.inr (Or.inl ((mty_0 hx).mp q)))) (fun _ q => k0 (Or.inr (Or.inr (Or.inl ((mty_0 hy).mp q))))) (fun q1 q2 q3 => k1 ?_) (fun _ _ q => k0 (Or.inl ((mty_inj hx hy).mp q)))
  rintro (e | e | e | e)
  · exact q3 (by rw [e])
  · exact q1 ((mty_0 hx).mpr e)
  · exact q2 ((mty_0 hy).mpr e)
  · exact k4_5 hy e
theorem mo_same {x y : Int32} (hc : CM z σ am) (hl : MLk w am) (hx : k4 x) (hy : k4 y) (k0 : sp_fits y x → Q (.returned (some (.int (mty (if x = 3 then y else x))))) (ov σ am 7 w)) (k1 : ¬ sp_fits y x → Q (.threw (am 1)) (ov σ am 7 (w.setI 1 79 1))) :
    Go z l mt_M_same (d + 10) 0 [.ref (am 0), .int (mty x), .int (mty y)] [] (ov σ am 7 w) Q := by
  have sy : sp_fits x y ↔ sp_fits y x := by
    have := k4_5 hx
    have := k4_5 hy
    constructor
    · rintro (e | e | e | e)
      · exact Or.inl e.symm
      · exact Or.inr (Or.inr (Or.inl e))
      · exact Or.inr (Or.inl e)
      · contradiction
    · rintro (e | e | e | e)
      · exact Or.inl e.symm
      · exact Or.inr (Or.inr (Or.inl e))
      · exact Or.inr (Or.inl e)
      · contradiction
  refine cm_M_same (d := d + 1) hc (mo_fits (d := d) hc hl hx hy (fun q _ => gj_nextV ?_) (fun q _ => gj_nextT (go_out (fun _ h => nomatch h) (k1 (fun q9 => q (sy.mpr q9))))))
  have k0' := k0 (sy.mp q)
  refine cm_M_same_6 (d := d + 1) hc (fun q9 => ?_) (fun q9 => ?_)
  · rw [if_neg (fun e => q9 ((mty_0 hx).mpr e))] at k0'
    exact k0'
  · rw [if_pos ((mty_0 hx).mp q9)] at k0'
    exact k0'
theorem NT.le {i : Nat} (h : NT σ n b op kd ps cap ks) (hi : i ≤ 1000) : σ.I 68 n ≤ nI i ↔ ps.length ≤ i := by
  rw [h.1.2.2.2.2.2.2.1]
  have := h.2.2.1
  constructor
  · intro q
    rcases Nat.lt_or_ge i ps.length with e | e
    · exact absurd q (nI_ge e (by omega))
    · exact e
  · exact fun q => nI_le q (by omega)
theorem mo_both {o N : Nat} {kw given s : Int32} (hc : CM z σ am) (hl : MLk w am) (h : NT σ n b op kd ps cap ks) (hd : ∀ i, sp_due o i N = kw) (hk : kw = 0 ∨ kw = 1 ∨ kw = 2) (k1 : (¬ (sp_kl o N ks 0 s 0).1 = 0) → Q (.threw (am 1)) (ov σ am 7 (w.setI 1 79 1))) (k0 : (sp_kl o N ks 0 s 0).1 = 0 → Q (.returned (some (.int given))) (ov σ am 7 w)) :
    Go z l mt_M_both_1 (d + 10) 0 [.ref (am 0), .ref n, .int (mty kw), .int given, .retAddr 0] [] (ov σ am 7 w) Q := by
  have hk4 : k4 kw := by rcases hk with e | e | e <;> subst e <;> decide
  have hk9 : ¬ kw = 4 := by rcases hk with e | e | e <;> subst e <;> decide
  obtain ⟨N1, hlen, hlc, hty⟩ := id h
  obtain ⟨n1, n2, n3, n4, n5, n6, n7, n8, n9⟩ := N1
  have loop : ∀ m i, i + m = ps.length → ((sp_kl o N ks 0 s 0).1 = 0 ↔ (sp_kl o N (ks.drop i) i s 0).1 = 0) → Go z l mt_M_both_1 (d + 10) 3 [.ref (am 0), .ref n, .int (mty kw), .int given, .int (nI i)] [] (ov σ am 7 w) Q := by
    intro m
    induction m with
    | zero =>
      intro i hi iff9
      have cc : σ.I 68 n ≤ nI i := (h.le (by omega)).mpr (by omega)
      refine cm_M_both_1_3 (d := d + 1) (b2 := b) (b6 := n) hc n1 n5 n1 (fun _ => k0 (iff9.mpr ?_)) (fun q => absurd cc q) (fun q => absurd cc q) (fun q => absurd cc q) (fun q => absurd cc q)
      rw [List.drop_of_length_le (by omega)]
      rfl
    | succ m ih =>
      intro i hi iff9
      have cc : ¬ σ.I 68 n ≤ nI i := fun q => by have := (h.le (by omega)).mp q; omega
      obtain ⟨t1, t2, t3⟩ := hty i (by omega)
      have ei : (nI i).toNatClampNeg = i := nI_clamp (by omega)
      refine cm_M_both_1_3 (d := d + 1) (b2 := b) (b6 := ps.getD i 0) hc n1 n5 t1 (fun q => absurd q cc) (fun _ => n4) (fun _ => by rw [n6]; exact vp_in_nI (by omega) (by omega)) (fun _ => by rw [ei]; exact n9 i (by omega)) (fun _ => ?_)
      rw [t2]
      rw [drop_at (x := 0) (show i < ks.length by omega)] at iff9
      refine mo_fits (d := d) hc hl t3 hk4 (fun q _ => gj_nextV (cm_M_both_1_27 (d := d + 1) hc ?_)) (fun q _ => gj_nextT (go_out (fun _ h => nomatch h) (k1 (fun q9 => ?_))))
      · rw [nI_1]
        refine ih (i + 1) (by omega) ?_
        rw [sp_kl, if_neg (by rw [hd]; exact hk9), hd, if_pos q] at iff9
        exact iff9
      · rw [iff9, sp_kl, if_neg (by rw [hd]; exact hk9), hd, if_neg q, kl_one] at q9
        exact absurd q9 (by decide)
  refine cm_M_both_1 (d := d + 1) hc (loop ps.length 0 (Nat.zero_add _) Iff.rfl)
theorem k4_if {x y : Int32} {p : Prop} [Decidable p] (hx : k4 x) (hy : k4 y) : k4 (if p then x else y) := by
  split
  · exact hx
  · exact hy
theorem mo_all {o N : Nat} (hc : CM z σ am) (hl : MLk w am) (h : NT σ n b op kd ps cap ks) (hd : ∀ i, sp_due o i N = 4) (k1 : (¬ (sp_kl o N ks 0 3 0).1 = 0) → Q (.threw (am 1)) (ov σ am 7 (w.setI 1 79 1))) (k0 : (sp_kl o N ks 0 3 0).1 = 0 → k4 (sp_kl o N ks 0 3 0).2 → Q (.returned (some (.int (mty (sp_kl o N ks 0 3 0).2)))) (ov σ am 7 w)) :
    Go z l mt_M_all (d + 11) 0 [.ref (am 0), .ref n, .retAddr 0, .retAddr 0] [] (ov σ am 7 w) Q := by
  obtain ⟨N1, hlen, hlc, hty⟩ := id h
  obtain ⟨n1, n2, n3, n4, n5, n6, n7, n8, n9⟩ := N1
  have loop : ∀ m i s, i + m = ps.length → k4 s → sp_kl o N ks 0 3 0 = sp_kl o N (ks.drop i) i s 0 → Go z l mt_M_all (d + 11) 4 [.ref (am 0), .ref n, .int (mty s), .int (nI i)] [] (ov σ am 7 w) Q := by
    intro m
    induction m with
    | zero =>
      intro i s hi hs eq9
      have cc : σ.I 68 n ≤ nI i := (h.le (by omega)).mpr (by omega)
      rw [List.drop_of_length_le (by omega)] at eq9
      have eq8 : sp_kl o N ks 0 3 0 = (0, s) := eq9
      rw [eq8] at k0
      exact cm_M_all_4 (d := d + 2) (b2 := b) (b6 := n) hc n1 n5 n1 (fun _ => k0 rfl hs) (fun q => absurd cc q) (fun q => absurd cc q) (fun q => absurd cc q) (fun q => absurd cc q)
    | succ m ih =>
      intro i s hi hs eq9
      have cc : ¬ σ.I 68 n ≤ nI i := fun q => by have := (h.le (by omega)).mp q; omega
      obtain ⟨t1, t2, t3⟩ := hty i (by omega)
      have ei : (nI i).toNatClampNeg = i := nI_clamp (by omega)
      refine cm_M_all_4 (d := d + 2) (b2 := b) (b6 := ps.getD i 0) hc n1 n5 t1 (fun q => absurd q cc) (fun _ => n4) (fun _ => by rw [n6]; exact vp_in_nI (by omega) (by omega)) (fun _ => by rw [ei]; exact n9 i (by omega)) (fun _ => ?_)
      rw [t2]
      rw [drop_at (x := 0) (show i < ks.length by omega), sp_kl, if_pos (hd i)] at eq9
      refine mo_same (d := d) hc hl hs t3 (fun q _ => gj_nextI (cm_M_all_26 (d := d + 2) hc ?_)) (fun q _ => gj_nextT (go_out (fun _ h => nomatch h) (k1 (fun q9 => ?_))))
      · rw [nI_1]
        rw [if_pos q] at eq9
        exact ih (i + 1) _ (by omega) (k4_if t3 hs) eq9
      · rw [if_neg q] at eq9
        rw [eq9, kl_one] at q9
        exact absurd q9 (by decide)
  exact cm_M_all (d := d + 2) hc (loop ps.length 0 3 (Nat.zero_add _) (by decide) rfl)
/-- what a construct's close says of its parts' kinds, in the reference -/
def TyR (z : State) (l : Launch) (d : Nat) (σ : Hp) (am : Nat → Nat) (w : Wd) (Q : Outcome → Hp → Prop) (n : Nat) (r : Int32 × Int32) : Prop :=
  (r.1 = 0 → k4 r.2 → Q (.returned (some (.int (mty r.2)))) (ov σ am 7 w)) → (¬ r.1 = 0 → Q (.threw (am 1)) (ov σ am 7 (w.setI 1 79 r.1))) → Go z l mt_M_typeOf (d + 13) 0 [.ref (am 0), .ref n] [] (ov σ am 7 w) Q
theorem kl_01 {o n : Nat} : ∀ (ks : List Int32) (i : Nat) (s e : Int32), (e = 0 ∨ e = 1) → (sp_kl o n ks i s e).1 = 0 ∨ (sp_kl o n ks i s e).1 = 1
  | [], _, _, _, h => h
  | k :: ks, i, s, e, h => by
    unfold sp_kl
    split
    · refine kl_01 ks _ _ _ ?_
      split
      · exact h
      · exact Or.inr rfl
    · refine kl_01 ks _ _ _ ?_
      split
      · exact h
      · exact Or.inr rfl
theorem due_1 {o : Nat} {kw : Int32} (h34 : ¬ o = 34) (h1 : op_first.getD o 0 = kw) (h2 : op_rest.getD o 0 = kw) (i N : Nat) : sp_due o i N = kw := by
  unfold sp_due
  rw [if_neg h34]
  split
  · exact h1
  · exact h2
/-- all parts must be of one given kind -/
theorem bo_go {o pc d' : Nat} {M : Mt} {ls st : List Value} {kw rr : Int32} (hc : CM z σ am) (hl : MLk w am) (h : NT σ n b op kd ps cap ks) (ht : sp_takes o ks.length = true) (h34 : ¬ o = 34) (h1 : op_first.getD o 0 = kw) (h2 : op_rest.getD o 0 = kw) (hk : kw = 0 ∨ kw = 1 ∨ kw = 2) (hrr : op_result.getD o 0 = rr) (hr : rr = 0 ∨ rr = 1 ∨ rr = 2)
    (ret : ∀ v : Int32, Q (.returned (some (.int v))) (ov σ am 7 w) → Go z l M d' (pc + 3) ls (.int v :: st) (ov σ am 7 w) Q) (hout : ∀ x ∈ tableOf M.hh, covers x pc = false)
    (k0 : (sp_kc o ks).1 = 0 → k4 (sp_kc o ks).2 → Q (.returned (some (.int (mty (sp_kc o ks).2)))) (ov σ am 7 w)) (k1 : ¬ (sp_kc o ks).1 = 0 → Q (.threw (am 1)) (ov σ am 7 (w.setI 1 79 (sp_kc o ks).1))) :
    Go z l mt_M_both_1 (d + 10) 0 [.ref (am 0), .ref n, .int (mty kw), .int (mty rr), .retAddr 0] [] (ov σ am 7 w) (fun o σ1 => hp_Le (ov σ am 7 w) σ1 → gj_next z l M d' pc ls st Q o σ1) := by
  have e : sp_kc o ks = ((sp_kl o ks.length ks 0 3 0).1, if op_result.getD o 0 = 4 then (sp_kl o ks.length ks 0 3 0).2 else op_result.getD o 0) := if_pos ht
  have r4 : ¬ rr = 4 := by rcases hr with e | e | e <;> rw [e] <;> decide
  have rk : k4 rr := by rcases hr with e | e | e <;> rw [e] <;> decide
  rw [hrr, if_neg r4] at e
  rw [e] at k0 k1
  refine mo_both (d := d) (o := o) (N := ks.length) (s := 3) hc hl h (fun i => due_1 h34 h1 h2 i _) hk (fun q _ => gj_nextT (go_out hout ?_)) (fun q _ => gj_nextI (ret _ (k0 q rk)))
  have q1 := (kl_01 (o := o) (n := ks.length) ks 0 3 0 (Or.inl rfl)).resolve_left q
  have k1' := k1 q
  rw [show ((sp_kl o ks.length ks 0 3 0).1, rr).1 = 1 from q1] at k1'
  exact k1'
/-- all parts must be of the same kind -/
theorem al_go {o pc d' : Nat} {M : Mt} {ls st : List Value} (hc : CM z σ am) (hl : MLk w am) (h : NT σ n b op kd ps cap ks) (ht : sp_takes o ks.length = true) (h34 : ¬ o = 34) (h1 : op_first.getD o 0 = 4) (h2 : op_rest.getD o 0 = 4)
    (ret : (sp_kl o ks.length ks 0 3 0).1 = 0 → k4 (sp_kl o ks.length ks 0 3 0).2 → Go z l M d' (pc + 3) ls (.int (mty (sp_kl o ks.length ks 0 3 0).2) :: st) (ov σ am 7 w) Q) (hout : ∀ x ∈ tableOf M.hh, covers x pc = false) (k1 : ¬ (sp_kc o ks).1 = 0 → Q (.threw (am 1)) (ov σ am 7 (w.setI 1 79 (sp_kc o ks).1))) :
    Go z l mt_M_all (d + 11) 0 [.ref (am 0), .ref n, .retAddr 0, .retAddr 0] [] (ov σ am 7 w) (fun o σ1 => hp_Le (ov σ am 7 w) σ1 → gj_next z l M d' pc ls st Q o σ1) := by
  have e : (sp_kc o ks).1 = (sp_kl o ks.length ks 0 3 0).1 := by rw [show sp_kc o ks = _ from if_pos ht]
  rw [e] at k1
  refine mo_all (d := d) (o := o) (N := ks.length) hc hl h (fun i => due_1 h34 h1 h2 i _) (fun q _ => gj_nextT (go_out hout ?_)) (fun q q4 _ => gj_nextI (ret q q4))
  have q1 := (kl_01 (o := o) (n := ks.length) ks 0 3 0 (Or.inl rfl)).resolve_left q
  have k1' := k1 q
  rw [q1] at k1'
  exact k1'
theorem ty_like {v0 : Nat} (hc : CM z σ am) (hl : MLk w am) (hv : σ.tag v0 = 10) (h : NT σ n b 6 kd ps cap ks) : TyR z l d σ am w Q n (sp_kc 26 ks) := by
  have h2 := h.1.2.1
  have ht : sp_takes 26 ks.length = true := rfl
  intro k0 k1
  exact cm_M_typeOf (d := d + 4) (b2 := v0) hc hl h.1.1 hv (fun q => absurd q (by rw [h2]; decide)) (fun q => absurd q (by rw [h2]; decide)) (fun q => absurd (h2.symm.trans q) (by decide)) (fun q => absurd (h2.symm.trans q) (by decide)) (fun q => absurd (h2.symm.trans q) (by decide)) (fun q => absurd (h2.symm.trans q) (by decide)) (fun q => absurd (h2.symm.trans q) (by decide)) (fun q => absurd (h2.symm.trans q) (by decide)) (fun q => absurd (h2.symm.trans q) (by decide)) (fun q => absurd (h2.symm.trans q) (by decide)) (fun q => absurd (h2.symm.trans q) (by decide)) (fun _ => (bo_go (d := d + 2) hc hl h ht (by decide) rfl rfl (by decide) rfl (by decide) (fun v k => cm_M_typeOf_124 (d := d + 4) hc k) (fun _ h => nomatch h) k0 k1)) (fun q => absurd (h2.symm.trans q) (by decide)) (fun q => absurd (h2.symm.trans q) (by decide)) (fun q => absurd (h2.symm.trans q) (by decide)) (fun q => absurd (h2.symm.trans q) (by decide)) (fun q => absurd (h2.symm.trans q) (by decide)) (fun q => absurd (h2.symm.trans q) (by decide)) (fun q => absurd (h2.symm.trans q) (by decide))
theorem ty_and {v0 : Nat} (hc : CM z σ am) (hl : MLk w am) (hv : σ.tag v0 = 10) (h : NT σ n b 10 kd ps cap ks) : TyR z l d σ am w Q n (sp_kc 15 ks) := by
  have h2 := h.1.2.1
  have ht : sp_takes 15 ks.length = true := rfl
  intro k0 k1
  exact cm_M_typeOf (d := d + 4) (b2 := v0) hc hl h.1.1 hv (fun q => absurd q (by rw [h2]; decide)) (fun q => absurd q (by rw [h2]; decide)) (fun q => absurd (h2.symm.trans q) (by decide)) (fun q => absurd (h2.symm.trans q) (by decide)) (fun q => absurd (h2.symm.trans q) (by decide)) (fun q => absurd (h2.symm.trans q) (by decide)) (fun q => absurd (h2.symm.trans q) (by decide)) (fun q => absurd (h2.symm.trans q) (by decide)) (fun q => absurd (h2.symm.trans q) (by decide)) (fun q => absurd (h2.symm.trans q) (by decide)) (fun q => absurd (h2.symm.trans q) (by decide)) (fun q => absurd (h2.symm.trans q) (by decide)) (fun q => absurd (h2.symm.trans q) (by decide)) (fun q => absurd (h2.symm.trans q) (by decide)) (fun q => absurd (h2.symm.trans q) (by decide)) (fun _ => (bo_go (d := d + 2) hc hl h ht (by decide) rfl rfl (by decide) rfl (by decide) (fun v k => cm_M_typeOf_137 (d := d + 4) hc k) (fun _ h => nomatch h) k0 k1)) (fun q => absurd (h2.symm.trans q) (by decide)) (fun q => absurd (h2.symm.trans q) (by decide)) (fun q => absurd (h2.symm.trans q) (by decide))
theorem ty_or {v0 : Nat} (hc : CM z σ am) (hl : MLk w am) (hv : σ.tag v0 = 10) (h : NT σ n b 11 kd ps cap ks) : TyR z l d σ am w Q n (sp_kc 14 ks) := by
  have h2 := h.1.2.1
  have ht : sp_takes 14 ks.length = true := rfl
  intro k0 k1
  exact cm_M_typeOf (d := d + 4) (b2 := v0) hc hl h.1.1 hv (fun q => absurd q (by rw [h2]; decide)) (fun q => absurd q (by rw [h2]; decide)) (fun q => absurd (h2.symm.trans q) (by decide)) (fun q => absurd (h2.symm.trans q) (by decide)) (fun q => absurd (h2.symm.trans q) (by decide)) (fun q => absurd (h2.symm.trans q) (by decide)) (fun q => absurd (h2.symm.trans q) (by decide)) (fun q => absurd (h2.symm.trans q) (by decide)) (fun q => absurd (h2.symm.trans q) (by decide)) (fun q => absurd (h2.symm.trans q) (by decide)) (fun q => absurd (h2.symm.trans q) (by decide)) (fun q => absurd (h2.symm.trans q) (by decide)) (fun q => absurd (h2.symm.trans q) (by decide)) (fun q => absurd (h2.symm.trans q) (by decide)) (fun q => absurd (h2.symm.trans q) (by decide)) (fun q => absurd (h2.symm.trans q) (by decide)) (fun _ => (bo_go (d := d + 2) hc hl h ht (by decide) rfl rfl (by decide) rfl (by decide) (fun v k => cm_M_typeOf_137 (d := d + 4) hc k) (fun _ h => nomatch h) k0 k1)) (fun q => absurd (h2.symm.trans q) (by decide)) (fun q => absurd (h2.symm.trans q) (by decide))
theorem ty_not {v0 : Nat} (hc : CM z σ am) (hl : MLk w am) (hv : σ.tag v0 = 10) (h : NT σ n b 12 kd ps cap ks) : TyR z l d σ am w Q n (sp_kc 16 ks) := by
  have h2 := h.1.2.1
  have ht : sp_takes 16 ks.length = true := rfl
  intro k0 k1
  exact cm_M_typeOf (d := d + 4) (b2 := v0) hc hl h.1.1 hv (fun q => absurd q (by rw [h2]; decide)) (fun q => absurd q (by rw [h2]; decide)) (fun q => absurd (h2.symm.trans q) (by decide)) (fun q => absurd (h2.symm.trans q) (by decide)) (fun q => absurd (h2.symm.trans q) (by decide)) (fun q => absurd (h2.symm.trans q) (by decide)) (fun q => absurd (h2.symm.trans q) (by decide)) (fun q => absurd (h2.symm.trans q) (by decide)) (fun q => absurd (h2.symm.trans q) (by decide)) (fun q => absurd (h2.symm.trans q) (by decide)) (fun q => absurd (h2.symm.trans q) (by decide)) (fun q => absurd (h2.symm.trans q) (by decide)) (fun q => absurd (h2.symm.trans q) (by decide)) (fun q => absurd (h2.symm.trans q) (by decide)) (fun q => absurd (h2.symm.trans q) (by decide)) (fun q => absurd (h2.symm.trans q) (by decide)) (fun q => absurd (h2.symm.trans q) (by decide)) (fun _ => (bo_go (d := d + 2) hc hl h ht (by decide) rfl rfl (by decide) rfl (by decide) (fun v k => cm_M_typeOf_137 (d := d + 4) hc k) (fun _ h => nomatch h) k0 k1)) (fun q => absurd (h2.symm.trans q) (by decide))
theorem ty_minus {v0 : Nat} (hc : CM z σ am) (hl : MLk w am) (hv : σ.tag v0 = 10) (h : NT σ n b 13 kd ps cap ks) : TyR z l d σ am w Q n (sp_kc 33 ks) := by
  have h2 := h.1.2.1
  have ht : sp_takes 33 ks.length = true := rfl
  intro k0 k1
  exact cm_M_typeOf (d := d + 4) (b2 := v0) hc hl h.1.1 hv (fun q => absurd q (by rw [h2]; decide)) (fun q => absurd q (by rw [h2]; decide)) (fun q => absurd (h2.symm.trans q) (by decide)) (fun q => absurd (h2.symm.trans q) (by decide)) (fun q => absurd (h2.symm.trans q) (by decide)) (fun q => absurd (h2.symm.trans q) (by decide)) (fun q => absurd (h2.symm.trans q) (by decide)) (fun q => absurd (h2.symm.trans q) (by decide)) (fun q => absurd (h2.symm.trans q) (by decide)) (fun q => absurd (h2.symm.trans q) (by decide)) (fun q => absurd (h2.symm.trans q) (by decide)) (fun q => absurd (h2.symm.trans q) (by decide)) (fun q => absurd (h2.symm.trans q) (by decide)) (fun q => absurd (h2.symm.trans q) (by decide)) (fun q => absurd (h2.symm.trans q) (by decide)) (fun q => absurd (h2.symm.trans q) (by decide)) (fun q => absurd (h2.symm.trans q) (by decide)) (fun q => absurd (h2.symm.trans q) (by decide)) (fun _ => (bo_go (d := d + 2) hc hl h ht (by decide) rfl rfl (by decide) rfl (by decide) (fun v k => cm_M_typeOf_147 (d := d + 4) hc k) (fun _ h => nomatch h) k0 k1))
theorem ty_cat {v0 : Nat} (hc : CM z σ am) (hl : MLk w am) (hv : σ.tag v0 = 10) (h : NT σ n b 14 5 ps cap ks) : TyR z l d σ am w Q n (sp_kc 27 ks) := by
  have h2 := h.1.2.1
  have hkd := h.1.2.2.1
  have ht : sp_takes 27 ks.length = true := rfl
  intro k0 k1
  exact cm_M_typeOf (d := d + 4) (b2 := v0) hc hl h.1.1 hv (fun _ q => absurd hkd q) (fun _ _ => (bo_go (d := d + 2) hc hl h ht (by decide) rfl rfl (by decide) rfl (by decide) (fun v k => cm_M_typeOf_165 (d := d + 4) hc k) (fun _ h => nomatch h) k0 k1)) (fun q => absurd (h2.symm.trans q) (by decide)) (fun q => absurd (h2.symm.trans q) (by decide)) (fun q => absurd (h2.symm.trans q) (by decide)) (fun q => absurd (h2.symm.trans q) (by decide)) (fun q => absurd (h2.symm.trans q) (by decide)) (fun q => absurd (h2.symm.trans q) (by decide)) (fun q => absurd (h2.symm.trans q) (by decide)) (fun q => absurd (h2.symm.trans q) (by decide)) (fun q => absurd (h2.symm.trans q) (by decide)) (fun q => absurd (h2.symm.trans q) (by decide)) (fun q => absurd (h2.symm.trans q) (by decide)) (fun q => absurd (h2.symm.trans q) (by decide)) (fun q => absurd (h2.symm.trans q) (by decide)) (fun q => absurd (h2.symm.trans q) (by decide)) (fun q => absurd (h2.symm.trans q) (by decide)) (fun q => absurd (h2.symm.trans q) (by decide)) (fun q => absurd (h2.symm.trans q) (by decide))
theorem ty_work {v0 o : Nat} (ho : 28 ≤ o ∧ o ≤ 32) (hc : CM z σ am) (hl : MLk w am) (hv : σ.tag v0 = 10) (h : NT σ n b 14 kd ps cap ks) (hk5 : ¬ kd = 5) : TyR z l d σ am w Q n (sp_kc o ks) := by
  have h2 := h.1.2.1
  have hkd : ¬ σ.I 64 n = 5 := by rw [h.1.2.2.1]; exact hk5
  obtain ⟨r1, r2, r3, r4⟩ := (by decide +kernel : ∀ o, o < 33 → 28 ≤ o → op_first.getD o 0 = 0 ∧ op_rest.getD o 0 = 0 ∧ op_result.getD o 0 = 0 ∧ ¬ o = 34) o (by omega) ho.1
  have ht : sp_takes o ks.length = true := by
    unfold sp_takes
    rw [if_neg (by omega), if_neg (by omega), if_neg (by omega), if_neg (by omega)]
    exact decide_eq_true (by omega)
  intro k0 k1
  exact cm_M_typeOf (d := d + 4) (b2 := v0) hc hl h.1.1 hv (fun _ _ => (bo_go (d := d + 2) hc hl h ht r4 r1 r2 (by decide) r3 (by decide) (fun v k => cm_M_typeOf_177 (d := d + 4) hc k) (fun _ h => nomatch h) k0 k1)) (fun _ q => absurd q hkd) (fun q => absurd (h2.symm.trans q) (by decide)) (fun q => absurd (h2.symm.trans q) (by decide)) (fun q => absurd (h2.symm.trans q) (by decide)) (fun q => absurd (h2.symm.trans q) (by decide)) (fun q => absurd (h2.symm.trans q) (by decide)) (fun q => absurd (h2.symm.trans q) (by decide)) (fun q => absurd (h2.symm.trans q) (by decide)) (fun q => absurd (h2.symm.trans q) (by decide)) (fun q => absurd (h2.symm.trans q) (by decide)) (fun q => absurd (h2.symm.trans q) (by decide)) (fun q => absurd (h2.symm.trans q) (by decide)) (fun q => absurd (h2.symm.trans q) (by decide)) (fun q => absurd (h2.symm.trans q) (by decide)) (fun q => absurd (h2.symm.trans q) (by decide)) (fun q => absurd (h2.symm.trans q) (by decide)) (fun q => absurd (h2.symm.trans q) (by decide)) (fun q => absurd (h2.symm.trans q) (by decide))
theorem ty_in {v0 : Nat} (hc : CM z σ am) (hl : MLk w am) (hv : σ.tag v0 = 10) (h : NT σ n b 5 kd ps cap ks) : TyR z l d σ am w Q n (sp_kc 18 ks) := by
  have h2 := h.1.2.1
  have ht : sp_takes 18 ks.length = true := rfl
  intro k0 k1
  have kk : (sp_kl 18 ks.length ks 0 3 0).1 = 0 → Q (.returned (some (.int 16))) (ov σ am 7 w) := fun q => by
    have e : sp_kc 18 ks = ((sp_kl 18 ks.length ks 0 3 0).1, 2) := rfl
    rw [e] at k0
    exact k0 q (show k4 2 by decide)
  exact cm_M_typeOf (d := d + 4) (b2 := v0) hc hl h.1.1 hv (fun q => absurd q (by rw [h2]; decide)) (fun q => absurd q (by rw [h2]; decide)) (fun q => absurd (h2.symm.trans q) (by decide)) (fun q => absurd (h2.symm.trans q) (by decide)) (fun q => absurd (h2.symm.trans q) (by decide)) (fun q => absurd (h2.symm.trans q) (by decide)) (fun q => absurd (h2.symm.trans q) (by decide)) (fun q => absurd (h2.symm.trans q) (by decide)) (fun q => absurd (h2.symm.trans q) (by decide)) (fun q => absurd (h2.symm.trans q) (by decide)) (fun _ => (al_go (d := d + 1) hc hl h ht (by decide) rfl rfl (fun q _ => cm_M_typeOf_111 (d := d + 4) hc (kk q)) (fun _ h => nomatch h) k1)) (fun q => absurd (h2.symm.trans q) (by decide)) (fun q => absurd (h2.symm.trans q) (by decide)) (fun q => absurd (h2.symm.trans q) (by decide)) (fun q => absurd (h2.symm.trans q) (by decide)) (fun q => absurd (h2.symm.trans q) (by decide)) (fun q => absurd (h2.symm.trans q) (by decide)) (fun q => absurd (h2.symm.trans q) (by decide)) (fun q => absurd (h2.symm.trans q) (by decide))
theorem ty_between {v0 : Nat} (hc : CM z σ am) (hl : MLk w am) (hv : σ.tag v0 = 10) (h : NT σ n b 7 kd ps cap ks) : TyR z l d σ am w Q n (sp_kc 19 ks) := by
  have h2 := h.1.2.1
  have ht : sp_takes 19 ks.length = true := rfl
  intro k0 k1
  have kk : (sp_kl 19 ks.length ks 0 3 0).1 = 0 → Q (.returned (some (.int 16))) (ov σ am 7 w) := fun q => by
    have e : sp_kc 19 ks = ((sp_kl 19 ks.length ks 0 3 0).1, 2) := rfl
    rw [e] at k0
    exact k0 q (show k4 2 by decide)
  exact cm_M_typeOf (d := d + 4) (b2 := v0) hc hl h.1.1 hv (fun q => absurd q (by rw [h2]; decide)) (fun q => absurd q (by rw [h2]; decide)) (fun q => absurd (h2.symm.trans q) (by decide)) (fun q => absurd (h2.symm.trans q) (by decide)) (fun q => absurd (h2.symm.trans q) (by decide)) (fun q => absurd (h2.symm.trans q) (by decide)) (fun q => absurd (h2.symm.trans q) (by decide)) (fun q => absurd (h2.symm.trans q) (by decide)) (fun q => absurd (h2.symm.trans q) (by decide)) (fun q => absurd (h2.symm.trans q) (by decide)) (fun q => absurd (h2.symm.trans q) (by decide)) (fun q => absurd (h2.symm.trans q) (by decide)) (fun _ => (al_go (d := d + 1) hc hl h ht (by decide) rfl rfl (fun q _ => cm_M_typeOf_111 (d := d + 4) hc (kk q)) (fun _ h => nomatch h) k1)) (fun q => absurd (h2.symm.trans q) (by decide)) (fun q => absurd (h2.symm.trans q) (by decide)) (fun q => absurd (h2.symm.trans q) (by decide)) (fun q => absurd (h2.symm.trans q) (by decide)) (fun q => absurd (h2.symm.trans q) (by decide)) (fun q => absurd (h2.symm.trans q) (by decide))
theorem ty_cmp {v0 o : Nat} (ho : 20 ≤ o ∧ o ≤ 25) (hc : CM z σ am) (hl : MLk w am) (hv : σ.tag v0 = 10) (h : NT σ n b 9 kd ps cap ks) : TyR z l d σ am w Q n (sp_kc o ks) := by
  have h2 := h.1.2.1
  obtain ⟨r1, r2, r3, r4⟩ := (by decide +kernel : ∀ o, o < 26 → 20 ≤ o → op_first.getD o 0 = 4 ∧ op_rest.getD o 0 = 4 ∧ op_result.getD o 0 = 2 ∧ ¬ o = 34) o (by omega) ho.1
  have ht : sp_takes o ks.length = true := by
    unfold sp_takes
    rw [if_neg (by omega), if_neg (by omega), if_neg (by omega), if_neg (by omega)]
    exact decide_eq_true (by omega)
  intro k0 k1
  have kk : (sp_kl o ks.length ks 0 3 0).1 = 0 → Q (.returned (some (.int 16))) (ov σ am 7 w) := fun q => by
    have e : sp_kc o ks = ((sp_kl o ks.length ks 0 3 0).1, 2) := by
      rw [show sp_kc o ks = _ from if_pos ht, r3, if_neg (by decide)]
    rw [e] at k0
    exact k0 q (show k4 2 by decide)
  exact cm_M_typeOf (d := d + 4) (b2 := v0) hc hl h.1.1 hv (fun q => absurd q (by rw [h2]; decide)) (fun q => absurd q (by rw [h2]; decide)) (fun q => absurd (h2.symm.trans q) (by decide)) (fun q => absurd (h2.symm.trans q) (by decide)) (fun q => absurd (h2.symm.trans q) (by decide)) (fun q => absurd (h2.symm.trans q) (by decide)) (fun q => absurd (h2.symm.trans q) (by decide)) (fun q => absurd (h2.symm.trans q) (by decide)) (fun q => absurd (h2.symm.trans q) (by decide)) (fun q => absurd (h2.symm.trans q) (by decide)) (fun q => absurd (h2.symm.trans q) (by decide)) (fun q => absurd (h2.symm.trans q) (by decide)) (fun q => absurd (h2.symm.trans q) (by decide)) (fun q => absurd (h2.symm.trans q) (by decide)) (fun _ => (al_go (d := d + 1) hc hl h ht r4 r1 r2 (fun q _ => cm_M_typeOf_111 (d := d + 4) hc (kk q)) (fun _ h => nomatch h) k1)) (fun q => absurd (h2.symm.trans q) (by decide)) (fun q => absurd (h2.symm.trans q) (by decide)) (fun q => absurd (h2.symm.trans q) (by decide)) (fun q => absurd (h2.symm.trans q) (by decide))
theorem ty_isnull {v0 : Nat} (hc : CM z σ am) (hl : MLk w am) (hv : σ.tag v0 = 10) (h : NT σ n b 8 kd ps cap ks) (k0 : Q (.returned (some (.int (mty 2)))) (ov σ am 7 w)) : Go z l mt_M_typeOf (d + 13) 0 [.ref (am 0), .ref n] [] (ov σ am 7 w) Q := by
  have h2 := h.1.2.1
  exact cm_M_typeOf (d := d + 4) (b2 := v0) hc hl h.1.1 hv (fun q => absurd q (by rw [h2]; decide)) (fun q => absurd q (by rw [h2]; decide)) (fun q => absurd (h2.symm.trans q) (by decide)) (fun q => absurd (h2.symm.trans q) (by decide)) (fun q => absurd (h2.symm.trans q) (by decide)) (fun q => absurd (h2.symm.trans q) (by decide)) (fun q => absurd (h2.symm.trans q) (by decide)) (fun q => absurd (h2.symm.trans q) (by decide)) (fun q => absurd (h2.symm.trans q) (by decide)) (fun q => absurd (h2.symm.trans q) (by decide)) (fun q => absurd (h2.symm.trans q) (by decide)) (fun q => absurd (h2.symm.trans q) (by decide)) (fun q => absurd (h2.symm.trans q) (by decide)) (fun _ => k0) (fun q => absurd (h2.symm.trans q) (by decide)) (fun q => absurd (h2.symm.trans q) (by decide)) (fun q => absurd (h2.symm.trans q) (by decide)) (fun q => absurd (h2.symm.trans q) (by decide)) (fun q => absurd (h2.symm.trans q) (by decide))
theorem ty_lit {v0 : Nat} (hc : CM z σ am) (hl : MLk w am) (hv : σ.tag v0 = 10) (h1 : σ.tag n = 9) (h2 : σ.I 63 n = 0) (ha : σ.A 66 n = some v0) (k0 : Q (.returned (some (.int (σ.I 70 v0)))) (ov σ am 7 w)) : Go z l mt_M_typeOf (d + 13) 0 [.ref (am 0), .ref n] [] (ov σ am 7 w) Q :=
  cm_M_typeOf (d := d + 4) (b2 := v0) hc hl h1 hv (fun q => absurd q (by rw [h2]; decide)) (fun q => absurd q (by rw [h2]; decide)) (fun _ => ha) (fun _ => k0) (fun q => absurd (h2.symm.trans q) (by decide)) (fun q => absurd (h2.symm.trans q) (by decide)) (fun q => absurd (h2.symm.trans q) (by decide)) (fun q => absurd (h2.symm.trans q) (by decide)) (fun q => absurd (h2.symm.trans q) (by decide)) (fun q => absurd (h2.symm.trans q) (by decide)) (fun q => absurd (h2.symm.trans q) (by decide)) (fun q => absurd (h2.symm.trans q) (by decide)) (fun q => absurd (h2.symm.trans q) (by decide)) (fun q => absurd (h2.symm.trans q) (by decide)) (fun q => absurd (h2.symm.trans q) (by decide)) (fun q => absurd (h2.symm.trans q) (by decide)) (fun q => absurd (h2.symm.trans q) (by decide)) (fun q => absurd (h2.symm.trans q) (by decide)) (fun q => absurd (h2.symm.trans q) (by decide))
theorem ty_reg {v0 r : Nat} (hc : CM z σ am) (hl : MLk w am) (hv : σ.tag v0 = 10) (h1 : σ.tag n = 9) (h2 : σ.I 63 n = 2) (hr : σ.I 64 n = nI r) (hr8 : r < 8) (k0 : Q (.returned (some (.int (w.eI 4 r)))) (ov σ am 7 w)) : Go z l mt_M_typeOf (d + 13) 0 [.ref (am 0), .ref n] [] (ov σ am 7 w) Q :=
  cm_M_typeOf (d := d + 4) (b2 := v0) hc hl h1 hv (fun q => absurd q (by rw [h2]; decide)) (fun q => absurd q (by rw [h2]; decide)) (fun q => absurd (h2.symm.trans q) (by decide)) (fun q => absurd (h2.symm.trans q) (by decide)) (fun q => absurd (h2.symm.trans q) (by decide)) (fun q => absurd (h2.symm.trans q) (by decide)) (fun _ => by rw [hr]; exact vp_in_nI hr8 (by omega)) (fun _ => by rw [hr, nI_clamp (by omega)]; exact k0) (fun q => absurd (h2.symm.trans q) (by decide)) (fun q => absurd (h2.symm.trans q) (by decide)) (fun q => absurd (h2.symm.trans q) (by decide)) (fun q => absurd (h2.symm.trans q) (by decide)) (fun q => absurd (h2.symm.trans q) (by decide)) (fun q => absurd (h2.symm.trans q) (by decide)) (fun q => absurd (h2.symm.trans q) (by decide)) (fun q => absurd (h2.symm.trans q) (by decide)) (fun q => absurd (h2.symm.trans q) (by decide)) (fun q => absurd (h2.symm.trans q) (by decide)) (fun q => absurd (h2.symm.trans q) (by decide))
end MType
