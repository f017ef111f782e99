/-! ===== the reference's parser: signs asked for and taken ===== -/
set_option maxRecDepth 100000 in
theorem sgc_inj0 : ∀ g, g < 33 → ∀ q, q < 33 → ¬ ((g < 15 ∨ 18 ≤ g) ∧ (q < 15 ∨ 18 ≤ q) ∧ sg_chs g = sg_chs q ∧ ¬ g = q) := by decide +kernel
theorem sgc_inj (g : Nat) (hg : g < 33) (q : Nat) (hq : q < 33) (h1 : g < 15 ∨ 18 ≤ g) (h2 : q < 15 ∨ 18 ≤ q) (e : sg_chs g = sg_chs q) : g = q := by
  rcases Nat.decEq g q with r | r
  · exact absurd ⟨h1, h2, e, r⟩ (sgc_inj0 g hg q hq)
  · exact r
set_option maxRecDepth 100000 in
theorem sg_no : ∀ g, g < 33 → (g < 15 ∨ 18 ≤ g) → ¬ [46] = sg_chs g ∧ ¬ [59] = sg_chs g := by decide +kernel
set_option maxRecDepth 100000 in
theorem sg_len : ∀ g, g < 33 → (sg_chs g).length ≤ 7 := by decide +kernel
set_option maxRecDepth 100000 in
theorem sg_sm0 : ∀ g, g < 33 → ∀ i, i < 8 → i < (sg_chs g).length → ∃ j, j < 127 ∧ (sg_chs g).getD i 0 = nI j := by decide +kernel
theorem sg_sm {g i : Nat} (hg : g < 33) (hi : i < (sg_chs g).length) : sm ((sg_chs g).getD i 0) := by
  obtain ⟨j, hj, e⟩ := sg_sm0 g hg i (by have := sg_len g hg; omega) hi
  exact ⟨j, by omega, e⟩
theorem narB (b : Bool) : narrow .boolean (.int (b2i b)) = .int (b2i b) := by cases b <;> rfl
theorem dec_eq {p q : Prop} [Decidable p] [Decidable q] (h : p ↔ q) : decide p = decide q := by
  by_cases hp : p
  · rw [decide_eq_true hp, decide_eq_true (h.mp hp)]
  · rw [decide_eq_false hp, decide_eq_false (fun q9 => hp (h.mpr q9))]
section MIs
variable {z : State} {l : Launch} {d : Nat} {σ : Hp} {am : Nat → Nat} {w : Wd} {Q : Outcome → Hp → Prop} {T : Nat → Int32} {L sa s p : Nat}
theorem tok46 (h : TokM σ am w T L p) (h1 : ¬ tk_g T L p = 33) (h2 : ¬ tk_g T L p = 34) : w.I 0 46 = nI (tk_e T L p) := by
  obtain ⟨-, h⟩ := h
  rcases h with h | h | h | h | h | h | h | h
  · exact h.2.2.1
  · exact h.2.2.1
  · exact h.2.2.1
  · exact h.2.2.1
  · exact h.2.2.2.1
  · exact absurd h.1 h2
  · exact absurd h.1 h1
  · exact absurd h.1 h2
/-- the characters of a sign against those asked for -/
theorem mo_isl {a g : Nat} {xs : List Int32} (h : PM z σ am w T L sa) (hS : StrM σ am a (sg_chs g)) (hg : g < 33) (h45 : w.I 0 45 = nI s) (hs : s ≤ L) (hx : xs.length = (sg_chs g).length) (hm : MkM T L s xs) (k : Q (.returned (some (.int (b2i (decide (xs = sg_chs g)))))) (ov σ am 7 w)) :
    ∀ n i, i + n = (sg_chs g).length → (∀ j, j < i → xs.getD j 0 = (sg_chs g).getD j 0) → Go z l mt_M_is_1 (d + 11) 46 [.ref (am 0), .ref a, .int (nI i)] [] (ov σ am 7 w) Q := by
  have hL := h.2.2.2.2.2.1
  have hT := h.2.2.2.2.2.2.1
  have l7 := sg_len g hg
  intro n
  induction n with
  | zero =>
    intro i hi hj
    refine cm_M_is_1_46 (d := d + 2) h.1 hS.1.1 (str_len (d := d + 1) (hS.ov h.1) (fun _ => gj_nextI (cm_M_is_1_51 (d := d + 2) h.1 (fun _ => ?_) (fun q => absurd (nI_le (by omega) (by omega)) q))))
    have e : xs = sg_chs g := List.ext_getElem hx (fun t a1 a2 => by
      have := hj t (by omega)
      simpa [List.getD, a1, a2] using this)
    rw [decide_eq_true e] at k
    exact k
  | succ n ih =>
    intro i hi hj
    refine cm_M_is_1_46 (d := d + 2) h.1 hS.1.1 (str_len (d := d + 1) (hS.ov h.1) (fun _ => gj_nextI (cm_M_is_1_51 (d := d + 2) h.1 (fun q => absurd q (nI_ge (by omega) (by omega))) (fun _ => ?_))))
    rw [h45, nI_add]
    refine mo_at (d := d + 1) h (by omega) (fun _ => gj_nextI (cm_M_is_1_64 (d := d + 2) h.1 hS.1.1 ?_))
    refine str_chr (d := d + 1) (hS.ov h.1) (by omega) (sg_sm hg (by omega)) (by omega) (fun _ => gj_nextI ?_)
    obtain ⟨c, hc, ec⟩ := sg_sm (g := g) (i := i) hg (by omega)
    have tx : T (s + i) = xs.getD i 0 := hm.2 i (by omega)
    have iL : s + i < L := by have := hm.1; omega
    have eq9 : atv T L (s + i) = (sg_chs g).getD i 0 ↔ xs.getD i 0 = (sg_chs g).getD i 0 := by
      rw [ec, atv_eq hT (by omega), tx]
      exact ⟨fun q => q.2, fun q => ⟨iL, q⟩⟩
    refine cm_M_is_1_69 (d := d + 2) h.1 (fun q => ?_) (fun q => ?_)
    · rw [nI_1]
      refine ih (i + 1) (by omega) (fun j hj9 => ?_)
      rcases Nat.lt_or_ge j i with e | e
      · exact hj j e
      · obtain rfl : j = i := by omega
        exact eq9.mp q
    · have ne : ¬ xs = sg_chs g := fun e => q (eq9.mpr (by rw [e]))
      rw [decide_eq_false ne] at k
      exact k
theorem mo_is {a g : Nat} (h : PM z σ am w T L sa) (ht : TokM σ am w T L p) (hp : p ≤ L) (hS : StrM σ am a (sg_chs g)) (hg : g < 33) (hg2 : g < 15 ∨ 18 ≤ g) (k : Q (.returned (some (.int (b2i (decide (tk_g T L p = g)))))) (ov σ am 7 w)) :
    Go z l mt_M_is_1 (d + 11) 0 [.ref (am 0), .ref a, .retAddr 0] [] (ov σ am 7 w) Q := by
  have hL := h.2.2.2.2.2.1
  obtain ⟨h45, ht⟩ := ht
  have tl := tk_le (T := T) hp
  have no : ¬ tk_g T L p = g → Q (.returned (some (.int 0))) (ov σ am 7 w) := fun q => by rw [decide_eq_false q] at k; exact k
  have mark : ∀ xs : List Int32, w.I 0 44 = 6 → w.I 0 46 = nI (tk_s T L p + xs.length) → xs.length ≤ 7 → MkM T L (tk_s T L p) xs → (xs = sg_chs g ↔ tk_g T L p = g) → Go z l mt_M_is_1 (d + 11) 0 [.ref (am 0), .ref a, .retAddr 0] [] (ov σ am 7 w) Q := fun xs e44 e46 l7 hm iff9 => by
    refine cm_M_is_1 (d := d + 2) (b2 := a) h.1 hS.1.1 hS.1.1 (fun _ q => absurd e44 q) (fun _ _ => ?_) (fun q => absurd (q.symm.trans e44) (by decide)) (fun q => absurd (q.symm.trans e44) (by decide))
    refine str_len (d := d + 1) (hS.ov h.1) (fun _ => gj_nextI ?_)
    have sb : w.I 0 46 - w.I 0 45 = nI xs.length := by
      rw [e46, h45, pk_sub (by omega)]
      congr 1
      omega
    have gl := sg_len g hg
    rw [sb]
    refine cm_M_is_1_39 (d := d + 2) h.1 (fun q => ?_) (fun q => no (fun e => ?_))
    · have el : xs.length = (sg_chs g).length := (nI_eq (by omega) (by omega)).mp q
      refine mo_isl h hS hg h45 (by omega) el hm ?_ _ 0 (Nat.zero_add _) (fun j hj => absurd hj (Nat.not_lt_zero _))
      rw [dec_eq iff9]
      exact k
    · exact q (by rw [iff9.mpr e])
  rcases ht with ⟨c1, c2, c3, a', c4, c5⟩ | ⟨c1, c2, -⟩ | ⟨c1, c2, -⟩ | ⟨c1, c2, -⟩ | ⟨c1, c0, c2, c3, c4, c5⟩ | ⟨c1, c2, c3, c4⟩ | ⟨c1, c2⟩ | ⟨c1, c2⟩
  · refine cm_M_is_1 (d := d + 2) (b2 := a') h.1 hS.1.1 c5.1.1 (fun q => absurd c2 q) (fun q => absurd c2 q) (fun _ => c4) (fun _ => ?_)
    have g1 := sg_len (tk_g T L p) (by omega)
    have g2 := sg_len g hg
    refine str_eq (d := d) (c5.ov h.1) (hS.ov h.1) (by omega) (by omega) (fun _ => gj_nextI (cm_M_is_1_16 (d := d + 2) h.1 (narB _) ?_))
    rw [dec_eq (show sg_chs (tk_g T L p) = sg_chs g ↔ tk_g T L p = g from ⟨fun q => sgc_inj _ (by omega) _ hg (Or.inl c1) hg2 q, fun q => by rw [q]⟩)]
    exact k
  · exact cm_M_is_1 (d := d + 2) (b2 := a) h.1 hS.1.1 hS.1.1 (fun _ _ => no (by omega)) (fun _ q => absurd (q.symm.trans c2) (by decide)) (fun q => absurd (q.symm.trans c2) (by decide)) (fun q => absurd (q.symm.trans c2) (by decide))
  · exact cm_M_is_1 (d := d + 2) (b2 := a) h.1 hS.1.1 hS.1.1 (fun _ _ => no (by omega)) (fun _ q => absurd (q.symm.trans c2) (by decide)) (fun q => absurd (q.symm.trans c2) (by decide)) (fun q => absurd (q.symm.trans c2) (by decide))
  · exact cm_M_is_1 (d := d + 2) (b2 := a) h.1 hS.1.1 hS.1.1 (fun _ _ => no (by omega)) (fun _ q => absurd (q.symm.trans c2) (by decide)) (fun q => absurd (q.symm.trans c2) (by decide)) (fun q => absurd (q.symm.trans c2) (by decide))
  · exact mark (sg_chs (tk_g T L p)) c2 (by rw [c3, c4]) (sg_len _ (by omega)) c5 ⟨fun q => sgc_inj _ (by omega) _ hg (Or.inr c1) hg2 q, fun q => by rw [q]⟩
  · have nn : ¬ tk_g T L p = g := by omega
    have n9 := sg_no g hg hg2
    rcases c4 with c4 | c4
    · exact mark [46] c2 c3 (by decide) c4 ⟨fun q => absurd q n9.1, fun q => absurd q nn⟩
    · exact mark [59] c2 c3 (by decide) c4 ⟨fun q => absurd q n9.2, fun q => absurd q nn⟩
  · exact cm_M_is_1 (d := d + 2) (b2 := a) h.1 hS.1.1 hS.1.1 (fun _ _ => no (by omega)) (fun _ q => absurd (q.symm.trans c2) (by decide)) (fun q => absurd (q.symm.trans c2) (by decide)) (fun q => absurd (q.symm.trans c2) (by decide))
  · exact cm_M_is_1 (d := d + 2) (b2 := a) h.1 hS.1.1 hS.1.1 (fun _ _ => no (by omega)) (fun _ q => absurd (q.symm.trans c2) (by decide)) (fun q => absurd (q.symm.trans c2) (by decide)) (fun q => absurd (q.symm.trans c2) (by decide))
end MIs
/-! ===== the state of the reference's parser ===== -/
/-- the text is good up to p: the sign behind p is read; lo: where the reading began; k levels open, ops operators -/
def MG (z : State) (σ : Hp) (am : Nat → Nat) (w : Wd) (T : Nat → Int32) (L sa lo p ops k : Nat) : Prop := PM z σ am w T L sa ∧ TokM σ am w T L p ∧ TokL σ w lo ∧ p ≤ L ∧ w.I 0 50 = nI k ∧ w.I 0 51 = nI ops ∧ k ≤ 30 ∧ ops ≤ 300 ∧ lo ≤ σ.nx ∧ ∀ i, i < 7 → am i < lo
/-- what reading from p to p' costs -/
def Bc (T : Nat → Int32) (L : Nat) (σ σ' : Hp) (p p' : Nat) : Prop := σ'.nx + 12 * tk_E T L p + 8 * p ≤ σ.nx + 12 * tk_E T L p' + 8 * p' ∧ σ'.sl + 110 * tk_E T L p + 250 * p ≤ σ.sl + 110 * tk_E T L p' + 250 * p'
/-- what a sign alone costs -/
def Bt (T : Nat → Int32) (L : Nat) (σ σ' : Hp) (p p' : Nat) : Prop := σ'.nx + 12 * tk_E T L p ≤ σ.nx + 12 * tk_E T L p' ∧ σ'.sl + 110 * tk_E T L p ≤ σ.sl + 110 * tk_E T L p' ∧ p + 1 ≤ p' ∧ p' ≤ L
/-- a broken text's world: the place e is kept -/
def WT (w w' : Wd) (e : Nat) : Prop := (∀ i f, (i ≠ 0 ∨ f < 44 ∨ 51 < f) → ((i ≠ 0 ∨ f ≠ 60) ∧ (i ≠ 1 ∨ f ≠ 79) → w'.I i f = w.I i f) ∧ w'.J i f = w.J i f ∧ w'.A i f = w.A i f) ∧ w'.eI = w.eI ∧ w'.eJ = w.eJ ∧ w'.eA = w.eA ∧ w'.I 0 60 = nI e ∧ w'.I 1 79 = 0
theorem WT.of {w w' : Wd} {e : Nat} (h : WS w w') (he : w'.I 0 45 = nI e) : WT w ((w'.setI 1 79 0).setI 0 60 (w'.I 0 45)) e :=
  ⟨fun i f q => ⟨fun r => by
    show up22 (up22 w'.I 1 79 0) 0 60 _ i f = _
    rw [up22_eq, if_neg (by omega), up22_eq, if_neg (by omega)]
    exact (h.1 i f q).1, (h.1 i f q).2.1, (h.1 i f q).2.2⟩, h.2.1, h.2.2.1, h.2.2.2, he, rfl⟩
theorem WT.pre {w w1 w' : Wd} {e : Nat} (h : WS w w1) (g : WT w1 w' e) : WT w w' e :=
  ⟨fun i f q => ⟨fun r => ((g.1 i f q).1 r).trans (h.1 i f q).1, (g.1 i f q).2.1.trans (h.1 i f q).2.1, (g.1 i f q).2.2.trans (h.1 i f q).2.2⟩, g.2.1.trans h.2.1, g.2.2.1.trans h.2.2.1, g.2.2.2.1.trans h.2.2.2, g.2.2.2.2⟩
theorem tk_EE {T : Nat → Int32} {L p : Nat} (h : ¬ tk_g T L p = 34) : tk_E T L p = tk_e T L p := if_neg h
theorem tk_El {T : Nat → Int32} {L p : Nat} (h : p ≤ L) : p ≤ tk_E T L p ∧ tk_E T L p ≤ L := by
  have := tk_le (T := T) h
  unfold tk_E
  split <;> omega
section MTake
variable {z : State} {l : Launch} {d : Nat} {σ : Hp} {am : Nat → Nat} {w : Wd} {Q : Outcome → Hp → Prop} {T : Nat → Int32} {L sa lo p ops k : Nat}
/-- the next sign -/
theorem mg_next (h : MG z σ am w T L sa lo p ops k) (h1 : ¬ tk_g T L p = 33) (h2 : ¬ tk_g T L p = 34)
    (kk : ∀ σ' w', MG z σ' am w' T L sa lo (tk_e T L p) ops k → Fm am (fun _ => False) σ σ' → SS w w' → Bt T L σ σ' p (tk_e T L p) → Q (.returned none) (ov σ' am 7 w')) :
    Go z l mt_M_next (d + 14) 0 [.ref (am 0), .retAddr 0, .retAddr 0, .retAddr 0] [] (ov σ am 7 w) Q := by
  obtain ⟨g1, g2, g3, g4, g5, g6, g7, g8, g9, g10⟩ := h
  have tl := tk_le (T := T) g4
  refine mo_next (d := d) g1 tl.2.2.1 (tok46 g2 h1 h2) (fun σ' w' P F S t tL bn bs => ?_)
  have f1 := F.1
  have el := tk_El (T := T) (L := L) tl.2.2.1
  have e34 := tk_EE (T := T) (L := L) h2
  have h9 := tl.2.2.2.1 h1
  exact kk σ' w' ⟨P, t, tL.mono g9, tl.2.2.1, (S.1 0 50 (Or.inr (Or.inr (by decide)))).1.trans g5, (S.1 0 51 (Or.inr (Or.inr (by decide)))).1.trans g6, g7, g8, by omega, g10⟩ F S ⟨by omega, by omega, by omega, tl.2.2.1⟩
theorem mg_is {a g : Nat} (h : MG z σ am w T L sa lo p ops k) (hS : StrO z σ a (sg_chs g)) (hg : g < 33) (hg2 : g < 15 ∨ 18 ≤ g) (kk : Q (.returned (some (.int (b2i (decide (tk_g T L p = g)))))) (ov σ am 7 w)) :
    Go z l mt_M_is_1 (d + 11) 0 [.ref (am 0), .ref a, .retAddr 0] [] (ov σ am 7 w) Q := mo_is h.1 h.2.1 h.2.2.2.1 (hS.strM h.1.1) hg hg2 kk
theorem mg_take {a g : Nat} (h : MG z σ am w T L sa lo p ops k) (hS : StrO z σ a (sg_chs g)) (hg : g < 33) (hg2 : g < 15 ∨ 18 ≤ g) (k0 : ¬ tk_g T L p = g → Q (.returned (some (.int 0))) (ov σ am 7 w))
    (k1 : tk_g T L p = g → ∀ σ' w', MG z σ' am w' T L sa lo (tk_e T L p) ops k → Fm am (fun _ => False) σ σ' → SS w w' → Bt T L σ σ' p (tk_e T L p) → Q (.returned (some (.int 1))) (ov σ' am 7 w')) :
    Go z l mt_M_take (d + 15) 0 [.ref (am 0), .ref a] [] (ov σ am 7 w) Q := by
  refine cm_M_take (d := d + 6) h.1.1 (mg_is (d := d + 3) h hS hg hg2 (fun _ => gj_nextI ?_))
  by_cases e : tk_g T L p = g
  · rw [decide_eq_true e]
    refine cm_M_take_5 (d := d + 6) h.1.1 (fun _ => ?_) (fun q => absurd (show (1 : Int32) = 0 from q) (by decide))
    exact mg_next (d := d) h (by omega) (by omega) (fun σ' w' G F S B _ => gj_nextV (cm_M_take_14 (d := d + 6) G.1.1 (k1 e σ' w' G F S B)))
  · rw [decide_eq_false e]
    exact cm_M_take_5 (d := d + 6) h.1.1 (fun q => absurd rfl q) (fun _ => k0 e)
/-- a broken text -/
def MB (z : State) (am : Nat → Nat) (T : Nat → Int32) (L : Nat) (σ : Hp) (w : Wd) (p e : Nat) (H : Hp) : Prop := ∃ σ' w' p', H = ov σ' am 7 w' ∧ CM z σ' am ∧ Fm am (fun _ => False) σ σ' ∧ WT w w' e ∧ p' ≤ L ∧ Bc T L σ σ' p p' ∧ e ≤ L
theorem MG.brk (h : MG z σ am w T L sa lo p ops k) : MB z am T L σ w p (tk_s T L p) (ov σ am 7 ((w.setI 1 79 0).setI 0 60 (w.I 0 45))) :=
  ⟨σ, _, p, rfl, h.1.1, Fm.rfl' _ _ _, WT.of (WS.rfl' w) h.2.1.1, h.2.2.2.1, ⟨Nat.le_refl _, Nat.le_refl _⟩, (tk_s_le (T := T) h.2.2.2.1).2⟩
theorem MB.pre {σ1 : Hp} {w1 : Wd} {p1 e : Nat} {H : Hp} (F : Fm am (fun _ => False) σ σ1) (S : WS w w1) (B : Bc T L σ σ1 p p1) (h : MB z am T L σ1 w1 p1 e H) : MB z am T L σ w p e H := by
  obtain ⟨σ', w', p', e1, e2, e3, e4, e5, e6, e7⟩ := h
  exact ⟨σ', w', p', e1, e2, F.tr e3, WT.pre S e4, e5, ⟨by have := B.1; have := e6.1; omega, by have := B.2; have := e6.2; omega⟩, e7⟩
theorem Bt.bc {σ' : Hp} {p' : Nat} (h : Bt T L σ σ' p p') : Bc T L σ σ' p p' := ⟨by have := h.1; have := h.2.2.1; omega, by have := h.2.1; have := h.2.2.1; omega⟩
theorem mg_need {a g : Nat} (h : MG z σ am w T L sa lo p ops k) (hS : StrO z σ a (sg_chs g)) (hg : g < 33) (hg2 : g < 15 ∨ 18 ≤ g) (k0 : ¬ tk_g T L p = g → ∀ H, MB z am T L σ w p (tk_s T L p) H → Q (.threw (am 1)) H)
    (k1 : tk_g T L p = g → ∀ σ' w', MG z σ' am w' T L sa lo (tk_e T L p) ops k → Fm am (fun _ => False) σ σ' → SS w w' → Bt T L σ σ' p (tk_e T L p) → Q (.returned none) (ov σ' am 7 w')) :
    Go z l mt_M_need (d + 16) 0 [.ref (am 0), .ref a] [] (ov σ am 7 w) Q := by
  refine cm_M_need (d := d + 7) h.1.1 (mg_take (d := d) h hS hg hg2 (fun e _ => gj_nextI ?_) (fun e σ' w' G F S B _ => gj_nextI ?_))
  · exact cm_M_need_6 (d := d + 7) h.1.1 h.1.2.1 (fun q => absurd rfl q) (fun _ => k0 e _ h.brk)
  · exact cm_M_need_6 (d := d + 7) G.1.1 G.1.2.1 (fun _ => k1 e σ' w' G F S B) (fun q => absurd (show (1 : Int32) = 0 from q) (by decide))
end MTake
