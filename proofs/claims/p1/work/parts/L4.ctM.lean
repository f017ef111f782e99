/-! ===== what the constructors leave (wip/tools/layi2.py) ===== -/

/-- the reference's cells behind its constructor: tags and lengths -/
def mk_tl (i : Nat) : Nat × Nat := if i < 9 then [(8, 0), (11, 0), (27, 64), (21, 64), (28, 6), (24, 41), (21, 1000), (27, 8), (22, 8)].getD i (0, 0) else if i % 2 = 1 then (10, 0) else (21, 40)
/-- m of them stand -/
def Jm (z : State) (B m : Nat) (ls : List (Nat × Nat)) (σ0 H : Hp) (c : Nat) : Prop := H.nx = B + m ∧ (∀ i, i < m → H.tag (B + i) = (mk_tl i).1 ∧ H.len (B + i) = (mk_tl i).2) ∧ (∀ q ∈ ls, H.A q.1 B = some (B + q.2)) ∧ ((∀ g, g ≠ 60 → H.I g B = 0) ∧ H.A 58 B = none) ∧ (∀ a, a < B → SameC σ0 H a) ∧ H.sl ≤ σ0.sl + c ∧ (∀ k, k < 6 → σ0.tag (strZ z "TruthBenchModel" (cmi k)) = 12 ∧ strZ z "TruthBenchModel" (cmi k) < B) ∧ z.heap.size ≤ B
theorem Jm.tag0 {z : State} {B m c : Nat} {ls : List (Nat × Nat)} {σ0 H : Hp} (h : Jm z B m ls σ0 H c) (hm : 0 < m) : H.tag B = 8 := (h.2.1 0 hm).1
theorem Jm.str {z : State} {B m c : Nat} {ls : List (Nat × Nat)} {σ0 H : Hp} (h : Jm z B m ls σ0 H c) {k : Nat} (hk : k < 6) : H.tag (strZ z "TruthBenchModel" (cmi k)) = 12 := by
  obtain ⟨-, -, -, -, h5, -, h7, -⟩ := h
  exact (h5 _ (h7 k hk).2).1.trans (h7 k hk).1
theorem Jm.st {z : State} {B m m' c c' : Nat} {ls ls' : List (Nat × Nat)} {σ0 σ σ' : Hp} (h : Jm z B m ls σ0 σ c) (hm : 0 < m) (S : ∀ a, a < σ.nx → a ≠ B → σ'.tag a = σ.tag a ∧ σ'.len a = σ.len a ∧ (a < B → SameC σ σ' a)) (hB : σ'.tag B = σ.tag B ∧ σ'.len B = σ.len B) (hI : ∀ g, g ≠ 60 → σ'.I g B = σ.I g B) (h58 : σ'.A 58 B = σ.A 58 B) (hl : ∀ q ∈ ls, σ'.A q.1 B = σ.A q.1 B) (hl' : ∀ q ∈ ls', σ'.A q.1 B = some (B + q.2)) (hsl : σ'.sl + c ≤ σ.sl + c') (hn : σ'.nx = B + m') (hmm : m ≤ m') (ht : ∀ i, m ≤ i → i < m' → σ'.tag (B + i) = (mk_tl i).1 ∧ σ'.len (B + i) = (mk_tl i).2) : Jm z B m' (ls ++ ls') σ0 σ' c' := by
  obtain ⟨h1, h2, h3, ⟨h4, h5⟩, h6, h7, h8, h9⟩ := h
  refine ⟨hn, fun i hi => ?_, fun q hq => ?_, ⟨fun g hg => (hI g hg).trans (h4 g hg), h58.trans h5⟩, fun a ha => (h6 a ha).trans ((S a (by omega) (by omega)).2.2 ha), by omega, h8, h9⟩
  · by_cases q : i < m
    · by_cases q0 : i = 0
      · subst q0
        exact ⟨hB.1.trans (h2 0 q).1, hB.2.trans (h2 0 q).2⟩
      · have s := S (B + i) (by omega) (by omega)
        exact ⟨s.1.trans (h2 i q).1, s.2.1.trans (h2 i q).2⟩
    · exact ht i (by omega) hi
  · rcases List.mem_append.mp hq with hq | hq
    · exact (hl q hq).trans (h3 q hq)
    · exact hl' q hq
/-- rows that stand -/
def Rw (z : State) (B : Nat) (H : Hp) : Prop := (∀ j, H.eA (B + 2) j = none) ∧ ∀ k, k < 6 → H.eA (B + 4) k = some (strZ z "TruthBenchModel" (cmi k))
theorem Rw.mv {z : State} {B : Nat} {σ σ' : Hp} (h : Rw z B σ) (s2 : SameC σ σ' (B + 2)) (s4 : SameC σ σ' (B + 4)) : Rw z B σ' := ⟨fun j => by rw [s2.2.2.2.2.2]; exact h.1 j, fun k hk => by rw [s4.2.2.2.2.2]; exact h.2 k hk⟩
/-- its values are NULL -/
def Vf (B m : Nat) (H : Hp) : Prop := ∀ j, 9 ≤ j → j + 1 < m → j % 2 = 1 → H.I 70 (B + j) = 0 ∧ H.I 72 (B + j) = 0 ∧ H.A 73 (B + j) = some (B + (j + 1))
def mL1 : List (Nat × Nat) := [(39, 1), (40, 2), (42, 3)]
def mL2 : List (Nat × Nat) := mL1 ++ [(52, 4)]
def mL3 : List (Nat × Nat) := mL2 ++ [(53, 5), (54, 6), (56, 7), (57, 8)]
def mL4 : List (Nat × Nat) := mL3 ++ [(59, 9)]
/-- what its constructor leaves -/
def M0 (z : State) (B : Nat) (σ0 H : Hp) : Prop := Jm z B 27 mL4 σ0 H 3000 ∧ H.I 60 B = -1 ∧ Rw z B H ∧ Vf B 27 H ∧ (∀ j, H.eI (B + 6) j = 0) ∧ (∀ r, r < 8 → H.eA (B + 7) r = some (B + (11 + 2 * r))) ∧ ∀ r, r < 8 → H.eI (B + 8) r = 20
section CtorM
variable {z : State} {l : Launch} {d : Nat} {σ σ0 : Hp} {Q : Outcome → Hp → Prop} {B : Nat}
theorem km_129 : ∀ (n i : Nat) (σ : Hp) (c : Nat), i + n = 8 → Jm z B (11 + 2 * i) mL4 σ0 σ c → c + 44 * n ≤ 3000 → σ.I 60 B = -1 → Rw z B σ → Vf B (11 + 2 * i) σ → (∀ j, σ.eI (B + 6) j = 0) → (∀ r, r < i → σ.eA (B + 7) r = some (B + (11 + 2 * r))) → (∀ r, r < i → σ.eI (B + 8) r = 20) → (∀ H, M0 z B σ0 H → Q (.returned none) H) → Go z l mt_M_init (d + 11) 129 [.ref B, .int (nI i)] [] σ Q := by
  intro n
  induction n with
  | zero =>
    intro i σ c hi h hc e60 hR hV h6 h7 h8 k
    obtain rfl : i = 8 := by omega
    refine ct_M_init_129 (d := d + 2) (h.tag0 (by omega)) (h.2.2.1 (56, 7) (by decide)) (fun _ => k σ ⟨?_, e60, hR, hV, h6, h7, h8⟩) (fun q => absurd ((nI_leI (a := 8) (by omega) (by omega)).mpr (by omega)) q)
    obtain ⟨a1, a2, a3, a4, a5, a6, a7⟩ := h
    exact ⟨a1, a2, a3, a4, a5, by omega, a7⟩
  | succ n ih =>
    intro i σ c hi h hc e60 hR hV h6 h7 h8 k
    have hn := h.1
    have hz := h.2.2.2.2.2.2.2
    refine go_wf fun hw => ct_M_init_129 (d := d + 2) (h.tag0 (by omega)) (h.2.2.1 (56, 7) (by decide)) (fun q => ?_) (fun _ => ?_)
    · have := (nI_leI (a := 8) (by omega) (by omega)).mp q
      omega
    have bl := hw.1 σ.nx (Nat.le_refl _)
    refine ki_V (d := d + 1) (ob := σ.nx) (hp_up_same _ _ _) (by omega) (fun σ1 g n1 l1 a1 t1 eI1 eJ1 ei1 _ => gj_nextV ?_)
    have f1 : (σ.newO 10 4).nx = σ.nx + 1 := rfl
    rw [f1] at n1 a1 t1
    have y1 : σ1.sl = σ.sl + 4 + 40 := l1
    have s1 : ∀ a, a < σ.nx → SameC σ σ1 a := fun a ha => (SameC.newO ha).trans (g.2.1 a (Nat.lt_succ_of_lt ha) (by omega))
    have v1 := g.2.2 (Nat.lt_succ_self _)
    have v1' : σ1.tag σ.nx = 10 ∧ σ1.len σ.nx = 0 := ⟨v1.1.trans (hp_up_same _ _ _), v1.2.trans bl.2.1⟩
    have sB := s1 B (by omega)
    have s7 := s1 (B + 7) (by omega)
    have s8 := s1 (B + 8) (by omega)
    have q7 := h.2.1 7 (by omega)
    have q8 := h.2.1 8 (by omega)
    refine ct_M_init_147 (d := d + 2) (b6 := B + 8) (s7.1.trans q7.1) v1'.1 (by omega) (sB.1.trans (h.tag0 (by omega))) ((sB.2.2.1 57).2.2.trans (h.2.2.1 (57, 8) (by decide))) (s8.1.trans q8.1) (by omega) (by rw [s7.2.1, q7.2]; exact vp_in_nI (by show i < 8; omega) (by decide)) (by rw [s8.2.1, q8.2]; exact vp_in_nI (by show i < 8; omega) (by decide)) ?_
    rw [show nI i + 1 = nI (i + 1) from nI_add i 1, nI_clamp (by omega)]
    obtain ⟨X, hX⟩ : ∃ X : Hp, X = (σ1.rowA (B + 7) (va_up (σ1.eA (B + 7)) i (some σ.nx))).rowI (B + 8) (va_up ((σ1.rowA (B + 7) (va_up (σ1.eA (B + 7)) i (some σ.nx))).eI (B + 8)) i 20) := ⟨_, rfl⟩
    rw [← hX]
    have sX : ∀ a, a ≠ B + 7 → a ≠ B + 8 → SameC σ1 X a := fun a a7 a8 => by rw [hX]; exact (SameC.rowA a7).trans (SameC.rowI a8)
    have tX : ∀ a, X.tag a = σ1.tag a ∧ X.len a = σ1.len a := fun a => by rw [hX]; exact ⟨rfl, rfl⟩
    have fX : ∀ _ : Nat, X.I = σ1.I ∧ X.A = σ1.A := fun a => by rw [hX]; exact ⟨rfl, rfl⟩
    have rX : X.eA (B + 7) = va_up (σ1.eA (B + 7)) i (some σ.nx) ∧ X.eI (B + 8) = va_up (σ1.eI (B + 8)) i 20 := by
      rw [hX]
      exact ⟨hp_up_same _ _ _, hp_up_same _ _ _⟩
    have so : ∀ a, a < σ.nx → a ≠ B + 7 → a ≠ B + 8 → SameC σ X a := fun a h1 h2 h3 => (s1 a h1).trans (sX a h2 h3)
    have soB := so B (by omega) (by omega) (by omega)
    refine ih (i + 1) X (c + 44) (by omega) ?_ (by omega) ((soB.2.2.1 60).1.trans e60) (hR.mv (so _ (by omega) (by omega) (by omega)) (so _ (by omega) (by omega) (by omega))) (fun j h1 h2 h3 => ?_) (fun j => ?_) (fun r hr => ?_) (fun r hr => ?_) k
    · have := h.st (ls' := []) (m' := 11 + 2 * (i + 1)) (σ' := X) (c' := c + 44) (by omega) (fun a ha hb => ⟨(tX a).1.trans (s1 a ha).1, (tX a).2.trans (s1 a ha).2.1, fun h9 => so a ha (by omega) (by omega)⟩) ⟨soB.1, soB.2.1⟩ (fun g9 _ => (soB.2.2.1 g9).1) ((soB.2.2.1 58).2.2) (fun q _ => (soB.2.2.1 _).2.2) (fun q hq => absurd hq List.not_mem_nil) (by rw [hX]; show σ1.sl + c ≤ _; omega) (by rw [hX]; show σ1.nx = _; omega) (by omega) (fun j h1 h2 => ?_)
      · rw [List.append_nil] at this
        exact this
      · have hj : j = 11 + 2 * i ∨ j = 12 + 2 * i := by omega
        rw [(tX _).1, (tX _).2]
        rcases hj with e | e
        · have e1 : mk_tl j = (10, 0) := by unfold mk_tl; rw [if_neg (by omega), if_pos (by omega)]
          rw [e1, show B + j = σ.nx by omega]
          exact v1'
        · have e1 : mk_tl j = (21, 40) := by unfold mk_tl; rw [if_neg (by omega), if_neg (by omega)]
          rw [e1, show B + j = σ.nx + 1 by omega]
          exact t1
    · rw [(fX 0).1, (fX 0).2]
      by_cases q : j + 1 < 11 + 2 * i
      · have sj := s1 (B + j) (by omega)
        rw [(sj.2.2.1 70).1, (sj.2.2.1 72).1, (sj.2.2.1 73).2.2]
        exact hV j h1 q h3
      · have ej : B + j = σ.nx := by omega
        rw [ej, show B + (j + 1) = σ.nx + 1 by omega, eI1]
        exact ⟨(bl.2.2.1 70).1, (bl.2.2.1 72).1, a1⟩
    · rw [(so (B + 6) (by omega) (by omega) (by omega)).2.2.2.1]
      exact h6 j
    · rw [rX.1]
      by_cases e : r = i
      · rw [e, hp_up_same, hn]
      · rw [hp_up_ne _ _ e, s7.2.2.2.2.2]
        exact h7 r (by omega)
    · rw [rX.2]
      by_cases e : r = i
      · rw [e, hp_up_same]
      · rw [hp_up_ne _ _ e, s8.2.2.2.1]
        exact h8 r (by omega)
theorem km_111 (h : Jm z B 9 mL3 σ0 σ 2000) (hR : Rw z B σ) (h6 : ∀ j, σ.eI (B + 6) j = 0) (k : ∀ H, M0 z B σ0 H → Q (.returned none) H) : Go z l mt_M_init (d + 11) 111 [.ref B, .retAddr 0] [] σ Q := by
  have hn := h.1
  have hz := h.2.2.2.2.2.2.2
  refine go_wf fun hw => ct_M_init_111 (d := d + 2) ?_
  have bl := hw.1 σ.nx (Nat.le_refl _)
  refine ki_V (d := d + 1) (ob := σ.nx) (hp_up_same _ _ _) (by omega) (fun σ1 g n1 l1 a1 t1 eI1 eJ1 ei1 _ => gj_nextV ?_)
  have f1 : (σ.newO 10 4).nx = σ.nx + 1 := rfl
  rw [f1] at n1 a1 t1
  have y1 : σ1.sl = σ.sl + 4 + 40 := l1
  have s1 : ∀ a, a < σ.nx → SameC σ σ1 a := fun a ha => (SameC.newO ha).trans (g.2.1 a (Nat.lt_succ_of_lt ha) (by omega))
  have v1 := g.2.2 (Nat.lt_succ_self _)
  have v1' : σ1.tag σ.nx = 10 ∧ σ1.len σ.nx = 0 := ⟨v1.1.trans (hp_up_same _ _ _), v1.2.trans bl.2.1⟩
  have sB := s1 B (by omega)
  refine ct_M_init_119 (d := d + 2) (sB.1.trans (h.tag0 (by omega))) hz (ct_M_init_122 (d := d + 2) (sB.1.trans (h.tag0 (by omega))) hz ?_)
  obtain ⟨X, hX⟩ : ∃ X : Hp, X = (σ1.setA 59 B (some σ.nx)).setI 60 B (-1) := ⟨_, rfl⟩
  rw [← hX]
  have sX : ∀ a, a ≠ B → SameC σ1 X a := fun a ha => by rw [hX]; exact (SameC.setA ha).trans (SameC.setI ha)
  have eX : X.I 60 B = -1 ∧ X.A 59 B = some σ.nx ∧ X.tag B = σ1.tag B ∧ X.len B = σ1.len B ∧ X.nx = σ1.nx ∧ X.sl = σ1.sl := by rw [hX]; simp [hq_newO_tag, hq_newO_len, hq_newO_I, hq_newO_J, hq_newO_A, hq_newO_eI, hq_newO_eJ, hq_newO_eA, hq_newO_nx, hq_newO_sl, hq_newA_tag, hq_newA_len, hq_newA_I, hq_newA_J, hq_newA_A, hq_newA_eI, hq_newA_eJ, hq_newA_eA, hq_newA_nx, hq_newA_sl, hq_setI_tag, hq_setI_len, hq_setI_I, hq_setI_J, hq_setI_A, hq_setI_eI, hq_setI_eJ, hq_setI_eA, hq_setI_nx, hq_setI_sl, hq_setJ_tag, hq_setJ_len, hq_setJ_I, hq_setJ_J, hq_setJ_A, hq_setJ_eI, hq_setJ_eJ, hq_setJ_eA, hq_setJ_nx, hq_setJ_sl, hq_setA_tag, hq_setA_len, hq_setA_I, hq_setA_J, hq_setA_A, hq_setA_eI, hq_setA_eJ, hq_setA_eA, hq_setA_nx, hq_setA_sl, hq_rowI_tag, hq_rowI_len, hq_rowI_I, hq_rowI_J, hq_rowI_A, hq_rowI_eI, hq_rowI_eJ, hq_rowI_eA, hq_rowI_nx, hq_rowI_sl, hq_rowJ_tag, hq_rowJ_len, hq_rowJ_I, hq_rowJ_J, hq_rowJ_A, hq_rowJ_eI, hq_rowJ_eJ, hq_rowJ_eA, hq_rowJ_nx, hq_rowJ_sl, hq_rowA_tag, hq_rowA_len, hq_rowA_I, hq_rowA_J, hq_rowA_A, hq_rowA_eI, hq_rowA_eJ, hq_rowA_eA, hq_rowA_nx, hq_rowA_sl, va_up, up2_if]
  have iX : ∀ g, g ≠ 60 → X.I g B = σ1.I g B := fun g hg => by rw [hX]; exact up2_nf _ _ hg
  have aX : ∀ g, g ≠ 59 → X.A g B = σ1.A g B := fun g hg => by rw [hX]; exact up2_nf _ _ hg
  have so : ∀ a, a < σ.nx → a ≠ B → SameC σ X a := fun a h1 h2 => (s1 a h1).trans (sX a h2)
  have h2 : Jm z B 11 mL4 σ0 X 2044 := h.st (m' := 11) (ls' := [(59, 9)]) (by decide) (fun a ha hb => ⟨(so a ha hb).1, (so a ha hb).2.1, fun _ => so a ha hb⟩) ⟨eX.2.2.1.trans sB.1, eX.2.2.2.1.trans sB.2.1⟩ (fun g9 hg => (iX g9 hg).trans (sB.2.2.1 g9).1) ((aX 58 (by decide)).trans (sB.2.2.1 58).2.2) (fun q hq => (aX _ ((show ∀ q ∈ mL3, q.1 ≠ 59 by decide) q hq)).trans (sB.2.2.1 _).2.2) (fun q hq => by
    obtain rfl := List.mem_singleton.mp hq
    rw [eX.2.1, hn]) (by omega) (by omega) (by decide) (fun j h1 h2 => by
    have hj : j = 9 ∨ j = 10 := by omega
    rcases hj with rfl | rfl
    · rw [← hn, (sX _ (by omega)).1, (sX _ (by omega)).2.1]
      exact v1'
    · rw [show B + 10 = σ.nx + 1 by omega, (sX _ (by omega)).1, (sX _ (by omega)).2.1]
      exact t1)
  refine km_129 8 0 X 2044 rfl h2 (by decide) eX.1 (hR.mv (so _ (by omega) (by omega)) (so _ (by omega) (by omega))) (fun j h1 h2 h3 => ?_) (fun j => ?_) (fun r hr => absurd hr (Nat.not_lt_zero _)) (fun r hr => absurd hr (Nat.not_lt_zero _)) k
  · obtain rfl : j = 9 := by omega
    have s9 := sX (B + 9) (by omega)
    rw [(s9.2.2.1 70).1, (s9.2.2.1 72).1, (s9.2.2.1 73).2.2, ← hn, eI1, show B + (9 + 1) = σ.nx + 1 by omega]
    exact ⟨(bl.2.2.1 70).1, (bl.2.2.1 72).1, a1⟩
  · rw [(so (B + 6) (by omega) (by omega)).2.2.2.1]
    exact h6 j
theorem km_77 (h : Jm z B 5 mL2 σ0 σ 500) (hR : Rw z B σ) (k : ∀ H, M0 z B σ0 H → Q (.returned none) H) : Go z l mt_M_init (d + 11) 77 [.ref B, .retAddr 0] [] σ Q := by
  have hn := h.1
  have hz := h.2.2.2.2.2.2.2
  refine go_wf fun hw => ct_M_init_77 (d := d + 2) (h.tag0 (by omega)) hz ?_
  have b6 := hw.1 (B + 6) (by omega)
  obtain ⟨X, hX⟩ : ∃ X : Hp, X = ((((((((σ.newA 24 41).setA 53 B (some σ.nx)).newA 21 1000).setA 54 B (some (σ.nx + 1))).newA 27 8).setA 56 B (some (σ.nx + 2))).newA 22 8).setA 57 B (some (σ.nx + 3))) := ⟨_, rfl⟩
  show Go z l mt_M_init (d + 11) 111 [.ref B, .retAddr 0] [] ((((((((σ.newA 24 41).setA 53 B (some σ.nx)).newA 21 1000).setA 54 B (some (σ.nx + 1))).newA 27 8).setA 56 B (some (σ.nx + 2))).newA 22 8).setA 57 B (some (σ.nx + 3))) Q
  rw [← hX]
  have kX : Kp B σ X := by rw [hX]; exact (Kp.rfl' B σ).newA.setA.newA.setA.newA.setA.newA.setA
  have so : ∀ a, a < σ.nx → a ≠ B → SameC σ X a := kX.2.1
  have eA : X.A 53 B = some (B + 5) ∧ X.A 54 B = some (B + 6) ∧ X.A 56 B = some (B + 7) ∧ X.A 57 B = some (B + 8) := by rw [hX]; simp [hq_newO_tag, hq_newO_len, hq_newO_I, hq_newO_J, hq_newO_A, hq_newO_eI, hq_newO_eJ, hq_newO_eA, hq_newO_nx, hq_newO_sl, hq_newA_tag, hq_newA_len, hq_newA_I, hq_newA_J, hq_newA_A, hq_newA_eI, hq_newA_eJ, hq_newA_eA, hq_newA_nx, hq_newA_sl, hq_setI_tag, hq_setI_len, hq_setI_I, hq_setI_J, hq_setI_A, hq_setI_eI, hq_setI_eJ, hq_setI_eA, hq_setI_nx, hq_setI_sl, hq_setJ_tag, hq_setJ_len, hq_setJ_I, hq_setJ_J, hq_setJ_A, hq_setJ_eI, hq_setJ_eJ, hq_setJ_eA, hq_setJ_nx, hq_setJ_sl, hq_setA_tag, hq_setA_len, hq_setA_I, hq_setA_J, hq_setA_A, hq_setA_eI, hq_setA_eJ, hq_setA_eA, hq_setA_nx, hq_setA_sl, hq_rowI_tag, hq_rowI_len, hq_rowI_I, hq_rowI_J, hq_rowI_A, hq_rowI_eI, hq_rowI_eJ, hq_rowI_eA, hq_rowI_nx, hq_rowI_sl, hq_rowJ_tag, hq_rowJ_len, hq_rowJ_I, hq_rowJ_J, hq_rowJ_A, hq_rowJ_eI, hq_rowJ_eJ, hq_rowJ_eA, hq_rowJ_nx, hq_rowJ_sl, hq_rowA_tag, hq_rowA_len, hq_rowA_I, hq_rowA_J, hq_rowA_A, hq_rowA_eI, hq_rowA_eJ, hq_rowA_eA, hq_rowA_nx, hq_rowA_sl, va_up, up2_if, hn, Nat.add_assoc]
  have eT : X.tag (B + 5) = 24 ∧ X.tag (B + 6) = 21 ∧ X.tag (B + 7) = 27 ∧ X.tag (B + 8) = 22 := by rw [hX]; simp [hq_newO_tag, hq_newO_len, hq_newO_I, hq_newO_J, hq_newO_A, hq_newO_eI, hq_newO_eJ, hq_newO_eA, hq_newO_nx, hq_newO_sl, hq_newA_tag, hq_newA_len, hq_newA_I, hq_newA_J, hq_newA_A, hq_newA_eI, hq_newA_eJ, hq_newA_eA, hq_newA_nx, hq_newA_sl, hq_setI_tag, hq_setI_len, hq_setI_I, hq_setI_J, hq_setI_A, hq_setI_eI, hq_setI_eJ, hq_setI_eA, hq_setI_nx, hq_setI_sl, hq_setJ_tag, hq_setJ_len, hq_setJ_I, hq_setJ_J, hq_setJ_A, hq_setJ_eI, hq_setJ_eJ, hq_setJ_eA, hq_setJ_nx, hq_setJ_sl, hq_setA_tag, hq_setA_len, hq_setA_I, hq_setA_J, hq_setA_A, hq_setA_eI, hq_setA_eJ, hq_setA_eA, hq_setA_nx, hq_setA_sl, hq_rowI_tag, hq_rowI_len, hq_rowI_I, hq_rowI_J, hq_rowI_A, hq_rowI_eI, hq_rowI_eJ, hq_rowI_eA, hq_rowI_nx, hq_rowI_sl, hq_rowJ_tag, hq_rowJ_len, hq_rowJ_I, hq_rowJ_J, hq_rowJ_A, hq_rowJ_eI, hq_rowJ_eJ, hq_rowJ_eA, hq_rowJ_nx, hq_rowJ_sl, hq_rowA_tag, hq_rowA_len, hq_rowA_I, hq_rowA_J, hq_rowA_A, hq_rowA_eI, hq_rowA_eJ, hq_rowA_eA, hq_rowA_nx, hq_rowA_sl, va_up, up2_if, hn, Nat.add_assoc]
  have eL : X.len (B + 5) = 41 ∧ X.len (B + 6) = 1000 ∧ X.len (B + 7) = 8 ∧ X.len (B + 8) = 8 := by rw [hX]; simp [hq_newO_tag, hq_newO_len, hq_newO_I, hq_newO_J, hq_newO_A, hq_newO_eI, hq_newO_eJ, hq_newO_eA, hq_newO_nx, hq_newO_sl, hq_newA_tag, hq_newA_len, hq_newA_I, hq_newA_J, hq_newA_A, hq_newA_eI, hq_newA_eJ, hq_newA_eA, hq_newA_nx, hq_newA_sl, hq_setI_tag, hq_setI_len, hq_setI_I, hq_setI_J, hq_setI_A, hq_setI_eI, hq_setI_eJ, hq_setI_eA, hq_setI_nx, hq_setI_sl, hq_setJ_tag, hq_setJ_len, hq_setJ_I, hq_setJ_J, hq_setJ_A, hq_setJ_eI, hq_setJ_eJ, hq_setJ_eA, hq_setJ_nx, hq_setJ_sl, hq_setA_tag, hq_setA_len, hq_setA_I, hq_setA_J, hq_setA_A, hq_setA_eI, hq_setA_eJ, hq_setA_eA, hq_setA_nx, hq_setA_sl, hq_rowI_tag, hq_rowI_len, hq_rowI_I, hq_rowI_J, hq_rowI_A, hq_rowI_eI, hq_rowI_eJ, hq_rowI_eA, hq_rowI_nx, hq_rowI_sl, hq_rowJ_tag, hq_rowJ_len, hq_rowJ_I, hq_rowJ_J, hq_rowJ_A, hq_rowJ_eI, hq_rowJ_eJ, hq_rowJ_eA, hq_rowJ_nx, hq_rowJ_sl, hq_rowA_tag, hq_rowA_len, hq_rowA_I, hq_rowA_J, hq_rowA_A, hq_rowA_eI, hq_rowA_eJ, hq_rowA_eA, hq_rowA_nx, hq_rowA_sl, va_up, up2_if, hn, Nat.add_assoc]
  have eN : X.nx = B + 9 ∧ X.sl = σ.sl + 1057 := by rw [hX]; simp [hq_newO_tag, hq_newO_len, hq_newO_I, hq_newO_J, hq_newO_A, hq_newO_eI, hq_newO_eJ, hq_newO_eA, hq_newO_nx, hq_newO_sl, hq_newA_tag, hq_newA_len, hq_newA_I, hq_newA_J, hq_newA_A, hq_newA_eI, hq_newA_eJ, hq_newA_eA, hq_newA_nx, hq_newA_sl, hq_setI_tag, hq_setI_len, hq_setI_I, hq_setI_J, hq_setI_A, hq_setI_eI, hq_setI_eJ, hq_setI_eA, hq_setI_nx, hq_setI_sl, hq_setJ_tag, hq_setJ_len, hq_setJ_I, hq_setJ_J, hq_setJ_A, hq_setJ_eI, hq_setJ_eJ, hq_setJ_eA, hq_setJ_nx, hq_setJ_sl, hq_setA_tag, hq_setA_len, hq_setA_I, hq_setA_J, hq_setA_A, hq_setA_eI, hq_setA_eJ, hq_setA_eA, hq_setA_nx, hq_setA_sl, hq_rowI_tag, hq_rowI_len, hq_rowI_I, hq_rowI_J, hq_rowI_A, hq_rowI_eI, hq_rowI_eJ, hq_rowI_eA, hq_rowI_nx, hq_rowI_sl, hq_rowJ_tag, hq_rowJ_len, hq_rowJ_I, hq_rowJ_J, hq_rowJ_A, hq_rowJ_eI, hq_rowJ_eJ, hq_rowJ_eA, hq_rowJ_nx, hq_rowJ_sl, hq_rowA_tag, hq_rowA_len, hq_rowA_I, hq_rowA_J, hq_rowA_A, hq_rowA_eI, hq_rowA_eJ, hq_rowA_eA, hq_rowA_nx, hq_rowA_sl, va_up, up2_if, hn, Nat.add_assoc]
  have eI : X.I = σ.I := by rw [hX]; rfl
  have aX : ∀ g, g ≠ 53 → g ≠ 54 → g ≠ 56 → g ≠ 57 → X.A g B = σ.A g B := fun g h1 h2 h3 h4 => by
    rw [hX]
    exact (up2_nf _ _ h4).trans ((up2_nf _ _ h3).trans ((up2_nf _ _ h2).trans (up2_nf _ _ h1)))
  have h2 : Jm z B 9 mL3 σ0 X 2000 := h.st (m' := 9) (ls' := [(53, 5), (54, 6), (56, 7), (57, 8)]) (by decide) (fun a ha hb => ⟨(so a ha hb).1, (so a ha hb).2.1, fun _ => so a ha hb⟩) (kX.2.2 (by omega)) (fun g9 _ => by rw [eI]) (aX 58 (by decide) (by decide) (by decide) (by decide)) (fun q hq => by
      obtain ⟨q1, q2, q3, q4⟩ := (show ∀ q ∈ mL2, q.1 ≠ 53 ∧ q.1 ≠ 54 ∧ q.1 ≠ 56 ∧ q.1 ≠ 57 by decide) q hq
      exact aX _ q1 q2 q3 q4) (fun q hq => by
      simp only [List.mem_cons, List.not_mem_nil, or_false] at hq
      rcases hq with rfl | rfl | rfl | rfl
      · exact eA.1
      · exact eA.2.1
      · exact eA.2.2.1
      · exact eA.2.2.2) (by omega) eN.1 (by decide) (fun j h1 h2 => by
      have hj : j = 5 ∨ j = 6 ∨ j = 7 ∨ j = 8 := by omega
      rcases hj with rfl | rfl | rfl | rfl
      · exact ⟨eT.1, eL.1⟩
      · exact ⟨eT.2.1, eL.2.1⟩
      · exact ⟨eT.2.2.1, eL.2.2.1⟩
      · exact ⟨eT.2.2.2, eL.2.2.2⟩)
  refine km_111 h2 (hR.mv (so _ (by omega) (by omega)) (so _ (by omega) (by omega))) (fun j => ?_) k
  rw [hX]
  exact (b6.2.2.2 j).1
theorem km_32 (h : Jm z B 4 mL1 σ0 σ 300) (hR : ∀ j, σ.eA (B + 2) j = none) (k : ∀ H, M0 z B σ0 H → Q (.returned none) H) : Go z l mt_M_init (d + 11) 32 [.ref B, .retAddr 0] [] σ Q := by
  have hn := h.1
  have hz := h.2.2.2.2.2.2.2
  refine ct_M_init_32 (d := d + 2) ?_
  rw [hn]
  have st : ∀ j, j < 6 → strZ z "TruthBenchModel" (cmi j) < B ∧ σ.tag (strZ z "TruthBenchModel" (cmi j)) = 12 := fun j hj => ⟨(h.2.2.2.2.2.2.1 j hj).2, h.str hj⟩
  have g0 : ∀ X : Hp, (∀ a, a ≠ B + 4 → SameC (σ.newA 28 6) X a) → X.tag (B + 4) = 28 → X.len (B + 4) = 6 → X.nx = B + 5 → X.sl = σ.sl + 6 → Rw z B X → Go z l mt_M_init (d + 11) 74 [.ref B, .retAddr 0] [.ref (B + 4), .ref B] X Q := fun X f t ln nx sl hr => by
    have fB := f B (by omega)
    refine ct_M_init_74 (d := d + 2) (fB.1.trans ((hp_up_ne _ _ (by omega)).trans (h.tag0 (by omega)))) hz ?_
    have so : ∀ a, a < σ.nx → a ≠ B → SameC σ (X.setA 52 B (some (B + 4))) a := fun a h1 h2 => ((SameC.newA h1).trans (f a (by omega))).trans (SameC.setA h2)
    have aX : ∀ g, g ≠ 52 → (X.setA 52 B (some (B + 4))).A g B = X.A g B := fun g hg => up2_nf _ _ hg
    have aS : (X.setA 52 B (some (B + 4))).A 52 B = some (B + 4) := show up2 X.A 52 B (some (B + 4)) 52 B = some (B + 4) from up2_same _ _ _ _
    have h2 : Jm z B 5 mL2 σ0 (X.setA 52 B (some (B + 4))) 500 := h.st (m' := 5) (ls' := [(52, 4)]) (by decide) (fun a ha hb => ⟨(so a ha hb).1, (so a ha hb).2.1, fun _ => so a ha hb⟩) ⟨fB.1.trans (hp_up_ne _ _ (by omega)), fB.2.1.trans (hp_up_ne _ _ (by omega))⟩ (fun g9 _ => (fB.2.2.1 g9).1) ((aX 58 (by decide)).trans (fB.2.2.1 58).2.2) (fun q hq => (aX _ ((show ∀ q ∈ mL1, q.1 ≠ 52 by decide) q hq)).trans (fB.2.2.1 _).2.2) (fun q hq => by
      obtain rfl := List.mem_singleton.mp hq
      exact aS) (by show X.sl + 300 ≤ _; omega) nx (by decide) (fun j h1 h2 => by
      obtain rfl : j = 4 := by omega
      exact ⟨t, ln⟩)
    exact km_77 h2 (hr.mv (SameC.setA (by omega)) (SameC.setA (by omega))) k
  have e4 : (σ.newA 28 6).tag (B + 4) = 28 ∧ (σ.newA 28 6).len (B + 4) = 6 := by
    rw [← hn]
    exact ⟨hp_up_same _ _ _, hp_up_same _ _ _⟩
  have sS : ∀ j, j < 6 → (σ.newA 28 6).tag (strZ z "TruthBenchModel" (cmi j)) = 12 := fun j hj => (hp_up_ne _ _ (by have := (st j hj).1; omega)).trans (st j hj).2
  have vi : ∀ j, j < 6 → vp_in (nI j) 6 := fun j hj => vp_in_nI hj (by decide)
  refine ct_M_init_38 (d := d + 2) e4.1 (sS 0 (by decide)) (by omega) (by rw [e4.2]; exact vi 0 (by decide)) ?_
  refine ct_M_init_44 (d := d + 2) e4.1 (sS 1 (by decide)) (by omega) (by show vp_in 1 ((σ.newA 28 6).len (B + 4)); rw [e4.2]; exact vi 1 (by decide)) ?_
  refine ct_M_init_50 (d := d + 2) e4.1 (sS 2 (by decide)) (by omega) (by show vp_in 2 ((σ.newA 28 6).len (B + 4)); rw [e4.2]; exact vi 2 (by decide)) ?_
  refine ct_M_init_56 (d := d + 2) e4.1 (sS 3 (by decide)) (by omega) (by show vp_in 3 ((σ.newA 28 6).len (B + 4)); rw [e4.2]; exact vi 3 (by decide)) ?_
  refine ct_M_init_62 (d := d + 2) e4.1 (sS 4 (by decide)) (by omega) (by show vp_in 4 ((σ.newA 28 6).len (B + 4)); rw [e4.2]; exact vi 4 (by decide)) ?_
  refine ct_M_init_68 (d := d + 2) e4.1 (sS 5 (by decide)) (by omega) (by show vp_in 5 ((σ.newA 28 6).len (B + 4)); rw [e4.2]; exact vi 5 (by decide)) ?_
  refine g0 _ (fun a ha => (((((SameC.rowA ha).trans (SameC.rowA ha)).trans (SameC.rowA ha)).trans (SameC.rowA ha)).trans (SameC.rowA ha)).trans (SameC.rowA ha)) e4.1 e4.2 (by show σ.nx + 1 = B + 5; omega) rfl ⟨fun j => ?_, fun k9 hk => ?_⟩
  · simp [hq_newO_tag, hq_newO_len, hq_newO_I, hq_newO_J, hq_newO_A, hq_newO_eI, hq_newO_eJ, hq_newO_eA, hq_newO_nx, hq_newO_sl, hq_newA_tag, hq_newA_len, hq_newA_I, hq_newA_J, hq_newA_A, hq_newA_eI, hq_newA_eJ, hq_newA_eA, hq_newA_nx, hq_newA_sl, hq_setI_tag, hq_setI_len, hq_setI_I, hq_setI_J, hq_setI_A, hq_setI_eI, hq_setI_eJ, hq_setI_eA, hq_setI_nx, hq_setI_sl, hq_setJ_tag, hq_setJ_len, hq_setJ_I, hq_setJ_J, hq_setJ_A, hq_setJ_eI, hq_setJ_eJ, hq_setJ_eA, hq_setJ_nx, hq_setJ_sl, hq_setA_tag, hq_setA_len, hq_setA_I, hq_setA_J, hq_setA_A, hq_setA_eI, hq_setA_eJ, hq_setA_eA, hq_setA_nx, hq_setA_sl, hq_rowI_tag, hq_rowI_len, hq_rowI_I, hq_rowI_J, hq_rowI_A, hq_rowI_eI, hq_rowI_eJ, hq_rowI_eA, hq_rowI_nx, hq_rowI_sl, hq_rowJ_tag, hq_rowJ_len, hq_rowJ_I, hq_rowJ_J, hq_rowJ_A, hq_rowJ_eI, hq_rowJ_eJ, hq_rowJ_eA, hq_rowJ_nx, hq_rowJ_sl, hq_rowA_tag, hq_rowA_len, hq_rowA_I, hq_rowA_J, hq_rowA_A, hq_rowA_eI, hq_rowA_eJ, hq_rowA_eA, hq_rowA_nx, hq_rowA_sl, va_up, up2_if]
    exact hR j
  · have : k9 = 0 ∨ k9 = 1 ∨ k9 = 2 ∨ k9 = 3 ∨ k9 = 4 ∨ k9 = 5 := by omega
    have c : (0 : Int32).toNatClampNeg = 0 ∧ (1 : Int32).toNatClampNeg = 1 ∧ (2 : Int32).toNatClampNeg = 2 ∧ (3 : Int32).toNatClampNeg = 3 ∧ (4 : Int32).toNatClampNeg = 4 ∧ (5 : Int32).toNatClampNeg = 5 := by decide
    rw [c.1, c.2.1, c.2.2.1, c.2.2.2.1, c.2.2.2.2.1, c.2.2.2.2.2]
    rcases this with rfl | rfl | rfl | rfl | rfl | rfl <;> simp [hq_newO_tag, hq_newO_len, hq_newO_I, hq_newO_J, hq_newO_A, hq_newO_eI, hq_newO_eJ, hq_newO_eA, hq_newO_nx, hq_newO_sl, hq_newA_tag, hq_newA_len, hq_newA_I, hq_newA_J, hq_newA_A, hq_newA_eI, hq_newA_eJ, hq_newA_eA, hq_newA_nx, hq_newA_sl, hq_setI_tag, hq_setI_len, hq_setI_I, hq_setI_J, hq_setI_A, hq_setI_eI, hq_setI_eJ, hq_setI_eA, hq_setI_nx, hq_setI_sl, hq_setJ_tag, hq_setJ_len, hq_setJ_I, hq_setJ_J, hq_setJ_A, hq_setJ_eI, hq_setJ_eJ, hq_setJ_eA, hq_setJ_nx, hq_setJ_sl, hq_setA_tag, hq_setA_len, hq_setA_I, hq_setA_J, hq_setA_A, hq_setA_eI, hq_setA_eJ, hq_setA_eA, hq_setA_nx, hq_setA_sl, hq_rowI_tag, hq_rowI_len, hq_rowI_I, hq_rowI_J, hq_rowI_A, hq_rowI_eI, hq_rowI_eJ, hq_rowI_eA, hq_rowI_nx, hq_rowI_sl, hq_rowJ_tag, hq_rowJ_len, hq_rowJ_I, hq_rowJ_J, hq_rowJ_A, hq_rowJ_eI, hq_rowJ_eJ, hq_rowJ_eA, hq_rowJ_nx, hq_rowJ_sl, hq_rowA_tag, hq_rowA_len, hq_rowA_I, hq_rowA_J, hq_rowA_A, hq_rowA_eI, hq_rowA_eJ, hq_rowA_eA, hq_rowA_nx, hq_rowA_sl, va_up, up2_if, cmi]
theorem ki_X (t : σ.tag B = 11) (hz : z.heap.size ≤ B) (k : ∀ σ', Kp B σ σ' → σ'.nx = σ.nx → σ'.sl = σ.sl → Q (.returned none) σ') : Go z l mt_X_init (d + 12) 0 [.ref B] [] σ Q := by
  refine ct_X_init (d := d + 3) (ct_JRuntimeException_init_2 (d := d + 2) (ct_JException_init_2 (d := d + 1) ?_))
  have kk : ∀ σ', Kp B σ σ' → σ'.nx = σ.nx → σ'.sl = σ.sl → hp_Le σ σ' → gj_next z l mt_JException_init_2 (d + 10) 6 [.ref B, .null, .null, .int 0, .int 0] [] (fun o σ1 => hp_Le σ σ1 → gj_next z l mt_JRuntimeException_init_2 (d + 11) 6 [.ref B, .null, .null, .int 0, .int 0] [] (fun o σ1 => hp_Le σ σ1 → gj_next z l mt_X_init (d + 12) 5 [.ref B] [] Q o σ1) o σ1) (.returned none) σ' := fun σ' g e1 e2 _ => gj_nextV (ct_JException_init_2_9 (d := d + 1) (fun _ => gj_nextV (ct_JRuntimeException_init_2_9 (d := d + 2) (fun _ => gj_nextV (ct_X_init_8 (d := d + 3) (k σ' g e1 e2))))))
  refine ct_JThrowable_init_2 (d := d) t hz (fun h9 => kk _ (Kp.rfl' B σ).setA.setA.setA.setA.setA.setA.setA rfl rfl h9) (fun v h9 => kk _ (Kp.rfl' B σ).setA.setA.setA.setA.setA.setA.setA rfl rfl h9) (fun v h9 => kk _ (Kp.rfl' B σ).setA.setA.setA.setA.setA.setA.setA rfl rfl h9) (fun v u h9 => kk _ (Kp.rfl' B σ).setA.setA.setA.setA.setA.setA.setA rfl rfl h9)
theorem ki_M (t : σ.tag B = 8) (hl : σ.len B = 0) (hn : σ.nx = B + 1) (hz : z.heap.size ≤ B) (hB : (∀ g, σ.I g B = 0) ∧ σ.A 58 B = none) (hstr : ∀ k, k < 6 → σ.tag (strZ z "TruthBenchModel" (cmi k)) = 12 ∧ strZ z "TruthBenchModel" (cmi k) < B) (k : ∀ H, M0 z B σ H → Q (.returned none) H) : Go z l mt_M_init (d + 13) 0 [.ref B, .retAddr 0] [] σ Q := by
  refine go_wf fun hw => ct_M_init (d := d + 4) ?_
  have b1 := hw.1 (B + 1) (by omega)
  have b2 := hw.1 (B + 2) (by omega)
  refine ki_X (d := d) (B := σ.nx) (hp_up_same _ _ _) (by omega) (fun σ1 g n1 l1 _ => gj_nextV ?_)
  have s1 : ∀ a, a < σ.nx → SameC σ σ1 a := fun a ha => (SameC.newO ha).trans (g.2.1 a (Nat.lt_succ_of_lt ha) (by omega))
  have v1 := g.2.2 (Nat.lt_succ_self _)
  have v1' : σ1.tag (B + 1) = 11 ∧ σ1.len (B + 1) = 0 := by
    rw [← hn]
    exact ⟨v1.1.trans (hp_up_same _ _ _), v1.2.trans (hw.1 σ.nx (Nat.le_refl _)).2.1⟩
  have n1' : σ1.nx = B + 2 := n1.trans (by show σ.nx + 1 = B + 2; omega)
  have l1' : σ1.sl = σ.sl + 7 := l1
  have sB := s1 B (by omega)
  have j1 : Jm z B 2 [] σ σ1 7 := ⟨n1', fun i hi => by
    have : i = 0 ∨ i = 1 := by omega
    rcases this with rfl | rfl
    · exact ⟨sB.1.trans t, sB.2.1.trans hl⟩
    · exact v1', fun q hq => absurd hq List.not_mem_nil, ⟨fun g9 _ => (sB.2.2.1 g9).1.trans (hB.1 g9), (sB.2.2.1 58).2.2.trans hB.2⟩, fun a ha => s1 a (by omega), by omega, hstr, hz⟩
  rw [hn]
  refine go_wf fun hw1 => ct_M_init_12 (d := d + 4) (j1.tag0 (by decide)) hz (j1.tag0 (by decide)) hz ?_
  obtain ⟨X, hX⟩ : ∃ X : Hp, X = ((((σ1.setA 39 B (some (B + 1))).newA 27 64).setA 40 B (some σ1.nx)).newA 21 64).setA 42 B (some (σ1.nx + 1)) := ⟨_, rfl⟩
  show Go z l mt_M_init (d + 13) 32 [.ref B, .retAddr 0] [] (((((σ1.setA 39 B (some (B + 1))).newA 27 64).setA 40 B (some σ1.nx)).newA 21 64).setA 42 B (some (σ1.nx + 1))) Q
  rw [← hX]
  have kX : Kp B σ1 X := by rw [hX]; exact (Kp.rfl' B σ1).setA.newA.setA.newA.setA
  have so : ∀ a, a < σ1.nx → a ≠ B → SameC σ1 X a := kX.2.1
  have eA : X.A 39 B = some (B + 1) ∧ X.A 40 B = some (B + 2) ∧ X.A 42 B = some (B + 3) := by rw [hX]; simp [hq_newO_tag, hq_newO_len, hq_newO_I, hq_newO_J, hq_newO_A, hq_newO_eI, hq_newO_eJ, hq_newO_eA, hq_newO_nx, hq_newO_sl, hq_newA_tag, hq_newA_len, hq_newA_I, hq_newA_J, hq_newA_A, hq_newA_eI, hq_newA_eJ, hq_newA_eA, hq_newA_nx, hq_newA_sl, hq_setI_tag, hq_setI_len, hq_setI_I, hq_setI_J, hq_setI_A, hq_setI_eI, hq_setI_eJ, hq_setI_eA, hq_setI_nx, hq_setI_sl, hq_setJ_tag, hq_setJ_len, hq_setJ_I, hq_setJ_J, hq_setJ_A, hq_setJ_eI, hq_setJ_eJ, hq_setJ_eA, hq_setJ_nx, hq_setJ_sl, hq_setA_tag, hq_setA_len, hq_setA_I, hq_setA_J, hq_setA_A, hq_setA_eI, hq_setA_eJ, hq_setA_eA, hq_setA_nx, hq_setA_sl, hq_rowI_tag, hq_rowI_len, hq_rowI_I, hq_rowI_J, hq_rowI_A, hq_rowI_eI, hq_rowI_eJ, hq_rowI_eA, hq_rowI_nx, hq_rowI_sl, hq_rowJ_tag, hq_rowJ_len, hq_rowJ_I, hq_rowJ_J, hq_rowJ_A, hq_rowJ_eI, hq_rowJ_eJ, hq_rowJ_eA, hq_rowJ_nx, hq_rowJ_sl, hq_rowA_tag, hq_rowA_len, hq_rowA_I, hq_rowA_J, hq_rowA_A, hq_rowA_eI, hq_rowA_eJ, hq_rowA_eA, hq_rowA_nx, hq_rowA_sl, va_up, up2_if, n1', Nat.add_assoc]
  have eT : X.tag (B + 2) = 27 ∧ X.tag (B + 3) = 21 := by rw [hX]; simp [hq_newO_tag, hq_newO_len, hq_newO_I, hq_newO_J, hq_newO_A, hq_newO_eI, hq_newO_eJ, hq_newO_eA, hq_newO_nx, hq_newO_sl, hq_newA_tag, hq_newA_len, hq_newA_I, hq_newA_J, hq_newA_A, hq_newA_eI, hq_newA_eJ, hq_newA_eA, hq_newA_nx, hq_newA_sl, hq_setI_tag, hq_setI_len, hq_setI_I, hq_setI_J, hq_setI_A, hq_setI_eI, hq_setI_eJ, hq_setI_eA, hq_setI_nx, hq_setI_sl, hq_setJ_tag, hq_setJ_len, hq_setJ_I, hq_setJ_J, hq_setJ_A, hq_setJ_eI, hq_setJ_eJ, hq_setJ_eA, hq_setJ_nx, hq_setJ_sl, hq_setA_tag, hq_setA_len, hq_setA_I, hq_setA_J, hq_setA_A, hq_setA_eI, hq_setA_eJ, hq_setA_eA, hq_setA_nx, hq_setA_sl, hq_rowI_tag, hq_rowI_len, hq_rowI_I, hq_rowI_J, hq_rowI_A, hq_rowI_eI, hq_rowI_eJ, hq_rowI_eA, hq_rowI_nx, hq_rowI_sl, hq_rowJ_tag, hq_rowJ_len, hq_rowJ_I, hq_rowJ_J, hq_rowJ_A, hq_rowJ_eI, hq_rowJ_eJ, hq_rowJ_eA, hq_rowJ_nx, hq_rowJ_sl, hq_rowA_tag, hq_rowA_len, hq_rowA_I, hq_rowA_J, hq_rowA_A, hq_rowA_eI, hq_rowA_eJ, hq_rowA_eA, hq_rowA_nx, hq_rowA_sl, va_up, up2_if, n1', Nat.add_assoc]
  have eL : X.len (B + 2) = 64 ∧ X.len (B + 3) = 64 := by rw [hX]; simp [hq_newO_tag, hq_newO_len, hq_newO_I, hq_newO_J, hq_newO_A, hq_newO_eI, hq_newO_eJ, hq_newO_eA, hq_newO_nx, hq_newO_sl, hq_newA_tag, hq_newA_len, hq_newA_I, hq_newA_J, hq_newA_A, hq_newA_eI, hq_newA_eJ, hq_newA_eA, hq_newA_nx, hq_newA_sl, hq_setI_tag, hq_setI_len, hq_setI_I, hq_setI_J, hq_setI_A, hq_setI_eI, hq_setI_eJ, hq_setI_eA, hq_setI_nx, hq_setI_sl, hq_setJ_tag, hq_setJ_len, hq_setJ_I, hq_setJ_J, hq_setJ_A, hq_setJ_eI, hq_setJ_eJ, hq_setJ_eA, hq_setJ_nx, hq_setJ_sl, hq_setA_tag, hq_setA_len, hq_setA_I, hq_setA_J, hq_setA_A, hq_setA_eI, hq_setA_eJ, hq_setA_eA, hq_setA_nx, hq_setA_sl, hq_rowI_tag, hq_rowI_len, hq_rowI_I, hq_rowI_J, hq_rowI_A, hq_rowI_eI, hq_rowI_eJ, hq_rowI_eA, hq_rowI_nx, hq_rowI_sl, hq_rowJ_tag, hq_rowJ_len, hq_rowJ_I, hq_rowJ_J, hq_rowJ_A, hq_rowJ_eI, hq_rowJ_eJ, hq_rowJ_eA, hq_rowJ_nx, hq_rowJ_sl, hq_rowA_tag, hq_rowA_len, hq_rowA_I, hq_rowA_J, hq_rowA_A, hq_rowA_eI, hq_rowA_eJ, hq_rowA_eA, hq_rowA_nx, hq_rowA_sl, va_up, up2_if, n1', Nat.add_assoc]
  have eN : X.nx = B + 4 ∧ X.sl = σ1.sl + 128 := by rw [hX]; simp [hq_newO_tag, hq_newO_len, hq_newO_I, hq_newO_J, hq_newO_A, hq_newO_eI, hq_newO_eJ, hq_newO_eA, hq_newO_nx, hq_newO_sl, hq_newA_tag, hq_newA_len, hq_newA_I, hq_newA_J, hq_newA_A, hq_newA_eI, hq_newA_eJ, hq_newA_eA, hq_newA_nx, hq_newA_sl, hq_setI_tag, hq_setI_len, hq_setI_I, hq_setI_J, hq_setI_A, hq_setI_eI, hq_setI_eJ, hq_setI_eA, hq_setI_nx, hq_setI_sl, hq_setJ_tag, hq_setJ_len, hq_setJ_I, hq_setJ_J, hq_setJ_A, hq_setJ_eI, hq_setJ_eJ, hq_setJ_eA, hq_setJ_nx, hq_setJ_sl, hq_setA_tag, hq_setA_len, hq_setA_I, hq_setA_J, hq_setA_A, hq_setA_eI, hq_setA_eJ, hq_setA_eA, hq_setA_nx, hq_setA_sl, hq_rowI_tag, hq_rowI_len, hq_rowI_I, hq_rowI_J, hq_rowI_A, hq_rowI_eI, hq_rowI_eJ, hq_rowI_eA, hq_rowI_nx, hq_rowI_sl, hq_rowJ_tag, hq_rowJ_len, hq_rowJ_I, hq_rowJ_J, hq_rowJ_A, hq_rowJ_eI, hq_rowJ_eJ, hq_rowJ_eA, hq_rowJ_nx, hq_rowJ_sl, hq_rowA_tag, hq_rowA_len, hq_rowA_I, hq_rowA_J, hq_rowA_A, hq_rowA_eI, hq_rowA_eJ, hq_rowA_eA, hq_rowA_nx, hq_rowA_sl, va_up, up2_if, n1', Nat.add_assoc]
  have eI : X.I = σ1.I := by rw [hX]; rfl
  have aX : ∀ g, g ≠ 39 → g ≠ 40 → g ≠ 42 → X.A g B = σ1.A g B := fun g h1 h2 h3 => by
    rw [hX]
    exact (up2_nf _ _ h3).trans ((up2_nf _ _ h2).trans (up2_nf _ _ h1))
  have h2 : Jm z B 4 mL1 σ X 300 := j1.st (m' := 4) (ls' := [(39, 1), (40, 2), (42, 3)]) (by decide) (fun a ha hb => ⟨(so a ha hb).1, (so a ha hb).2.1, fun _ => so a ha hb⟩) (kX.2.2 (by omega)) (fun g9 _ => by rw [eI]) (aX 58 (by decide) (by decide) (by decide)) (fun q hq => absurd hq List.not_mem_nil) (fun q hq => by
      simp only [List.mem_cons, List.not_mem_nil, or_false] at hq
      rcases hq with rfl | rfl | rfl
      · exact eA.1
      · exact eA.2.1
      · exact eA.2.2) (by omega) eN.1 (by decide) (fun j h1 h2 => by
      have hj : j = 2 ∨ j = 3 := by omega
      rcases hj with rfl | rfl
      · exact ⟨eT.1, eL.1⟩
      · exact ⟨eT.2, eL.2⟩)
  refine km_32 (d := d + 2) h2 (fun j => ?_) k
  rw [hX]
  exact ((hw1.1 (B + 2) (by omega)).2.2.2 j).2.2
end CtorM
