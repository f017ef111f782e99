/-! ===== what the constructors leave (wip/tools/layi2.py) ===== -/

theorem all21 {P : Nat → Prop} (h0 : P 0) (h1 : P 1) (h2 : P 2) (h3 : P 3) (h4 : P 4) (h5 : P 5) (h6 : P 6) (h7 : P 7) (h8 : P 8) (h9 : P 9) (h10 : P 10) (h11 : P 11) (h12 : P 12) (h13 : P 13) (h14 : P 14) (h15 : P 15) (h16 : P 16) (h17 : P 17) (h18 : P 18) (h19 : P 19) (h20 : P 20) : ∀ i, i < 21 → P i := by
  intro i hi
  have : i = 0 ∨ i = 1 ∨ i = 2 ∨ i = 3 ∨ i = 4 ∨ i = 5 ∨ i = 6 ∨ i = 7 ∨ i = 8 ∨ i = 9 ∨ i = 10 ∨ i = 11 ∨ i = 12 ∨ i = 13 ∨ i = 14 ∨ i = 15 ∨ i = 16 ∨ i = 17 ∨ i = 18 ∨ i = 19 ∨ i = 20 := by omega
  rcases this with rfl | rfl | rfl | rfl | rfl | rfl | rfl | rfl | rfl | rfl | rfl | rfl | rfl | rfl | rfl | rfl | rfl | rfl | rfl | rfl | rfl
  · exact h0
  · exact h1
  · exact h2
  · exact h3
  · exact h4
  · exact h5
  · exact h6
  · exact h7
  · exact h8
  · exact h9
  · exact h10
  · exact h11
  · exact h12
  · exact h13
  · exact h14
  · exact h15
  · exact h16
  · exact h17
  · exact h18
  · exact h19
  · exact h20
/-- the class's cells behind its constructor -/
def C0 (op : Nat → Nat) (H : Hp) (N : Nat) : Prop := (∀ i, i < 21 → H.tag (N + i) = cw_tag i ∧ H.len (N + i) = cw_len i) ∧ (∀ q ∈ cl_tab, H.A q.2.1 (N + q.1) = some (N + q.2.2)) ∧ (H.I 1 N = 0 ∧ H.I 9 N = -1 ∧ H.I 10 N = 0 ∧ H.I 19 (N + 8) = 0) ∧ (∀ j, H.eI (N + 1) j = 0 ∧ H.eI (N + 2) j = 0) ∧ (∀ j, j < 251 → H.eI (N + 4) j = 3 ∧ H.eJ (N + 5) j = 0) ∧ ∀ j, j < 1000 → H.eA (N + 9) j = some (op 0) ∧ H.eA (N + 13) j = some (op 0)
/-- the class's own object gets a field, a new cell is made -/
def Tn (N f v : Nat) (σ σ' : Hp) : Prop := (∀ a, a < σ.nx → a ≠ N → SameC σ σ' a) ∧ (σ'.tag N = σ.tag N ∧ σ'.len N = σ.len N) ∧ (∀ g, σ'.I g N = σ.I g N) ∧ (∀ g, g ≠ f → σ'.A g N = σ.A g N) ∧ σ'.A f N = some v
theorem Tn.of {N f v t n : Nat} {σ σ' : Hp} (hN : N < σ.nx) (g : Kp σ.nx ((σ.setA f N (some v)).newO t n) σ') : Tn N f v σ σ' := by
  have sm : ∀ a, a < σ.nx → SameC ((σ.setA f N (some v)).newO t n) σ' a := fun a ha => g.2.1 a (Nat.lt_succ_of_lt ha) (by omega)
  have sn := sm N hN
  refine ⟨fun a ha hn => ((SameC.setA hn).trans (SameC.newO (σ := σ.setA f N (some v)) ha)).trans (sm a ha), ⟨sn.1.trans (hp_up_ne _ _ (by show N ≠ σ.nx; omega)), sn.2.1⟩, fun g9 => (sn.2.2.1 g9).1, fun g9 h9 => (sn.2.2.1 g9).2.2.trans (up2_nf _ _ h9), (sn.2.2.1 f).2.2.trans (up2_same _ _ _ _)⟩
theorem Tn.new {N f v t n : Nat} {σ σ' : Hp} (hw : hp_wf σ) (g : Kp σ.nx ((σ.setA f N (some v)).newO t n) σ') : σ'.tag σ.nx = t ∧ σ'.len σ.nx = 0 := by
  have h := g.2.2 (Nat.lt_succ_self _)
  exact ⟨h.1.trans (hp_up_same _ _ _), h.2.trans (hw.1 σ.nx (Nat.le_refl _)).2.1⟩
/-- the first m cells of the class stand, with the links ls -/
def Jc (op : Nat → Nat) (N m : Nat) (ls : List (Nat × Nat × Nat)) (σ0 H : Hp) (c : Nat) : Prop := H.nx = N + m ∧ (∀ i, i < m → H.tag (N + i) = cw_tag i ∧ H.len (N + i) = cw_len i) ∧ (∀ q ∈ ls, q.1 < m ∧ H.A q.2.1 (N + q.1) = some (N + q.2.2)) ∧ (H.I 1 N = 0 ∧ (∀ j, H.eI (N + 1) j = 0 ∧ H.eI (N + 2) j = 0) ∧ ∀ j, j < 251 → H.eI (N + 4) j = 3 ∧ H.eJ (N + 5) j = 0) ∧ (∀ a, a < N → SameC σ0 H a) ∧ H.sl ≤ σ0.sl + c ∧ σ0.tag (op 0) = 20 ∧ op 0 < N
theorem Jc.tag0 {op : Nat → Nat} {N m c : Nat} {ls : List (Nat × Nat × Nat)} {σ0 H : Hp} (h : Jc op N m ls σ0 H c) (hm : 8 ≤ m) : H.tag N = 1 := (h.2.1 0 (by omega)).1
theorem Jc.op0 {op : Nat → Nat} {N m c : Nat} {ls : List (Nat × Nat × Nat)} {σ0 H : Hp} (h : Jc op N m ls σ0 H c) : H.tag (op 0) = 20 := (h.2.2.2.2.1 _ h.2.2.2.2.2.2.2).1.trans h.2.2.2.2.2.2.1
/-- one cell more, and those that its constructor makes -/
theorem Jc.tn {op : Nat → Nat} {N m m' c c' f v : Nat} {ls ls' : List (Nat × Nat × Nat)} {σ0 σ σ' : Hp} (h : Jc op N m ls σ0 σ c) (hm : 8 ≤ m) (T : Tn N f v σ σ') (hf : ∀ q ∈ ls, q.1 = 0 → q.2.1 ≠ f) (hsl : σ'.sl + c ≤ σ.sl + c') (hn : σ'.nx = N + m') (ht : ∀ i, m ≤ i → i < m' → σ'.tag (N + i) = cw_tag i ∧ σ'.len (N + i) = cw_len i) (hl : ∀ q ∈ ls', q.1 < m' ∧ σ'.A q.2.1 (N + q.1) = some (N + q.2.2)) (hmm : m ≤ m') : Jc op N m' (ls ++ ls') σ0 σ' c' := by
  obtain ⟨h1, h2, h3, ⟨h4, h5, h6⟩, h7, h8, h9⟩ := h
  have S : ∀ i, i < m → i ≠ 0 → SameC σ σ' (N + i) := fun i hi h0 => T.1 _ (by omega) (by omega)
  refine ⟨hn, fun i hi => ?_, fun q hq => ?_, ⟨(T.2.2.1 1).trans h4, fun j => ?_, fun j hj => ?_⟩, fun a ha => (h7 a ha).trans (T.1 a (by omega) (by omega)), by omega, h9⟩
  · by_cases q : i < m
    · by_cases q0 : i = 0
      · subst q0
        exact ⟨T.2.1.1.trans (h2 0 q).1, T.2.1.2.trans (h2 0 q).2⟩
      · exact ⟨(S i q q0).1.trans (h2 i q).1, (S i q q0).2.1.trans (h2 i q).2⟩
    · exact ht i (by omega) hi
  · rcases List.mem_append.mp hq with hq | hq
    · obtain ⟨a1, a2⟩ := h3 q hq
      refine ⟨by omega, ?_⟩
      by_cases q0 : q.1 = 0
      · rw [q0] at a2 ⊢
        exact (T.2.2.2.1 _ (hf q hq q0)).trans a2
      · exact ((S _ a1 q0).2.2.1 _).2.2.trans a2
    · exact hl q hq
  · rw [(S 1 (by omega) (by decide)).2.2.2.1, (S 2 (by omega) (by decide)).2.2.2.1]
    exact h5 j
  · rw [(S 4 (by omega) (by decide)).2.2.2.1, (S 5 (by omega) (by decide)).2.2.2.2.1]
    exact h6 j hj
theorem Jc.sm {op : Nat → Nat} {N m c f v i : Nat} {ls : List (Nat × Nat × Nat)} {σ0 σ σ' : Hp} (h : Jc op N m ls σ0 σ c) (T : Tn N f v σ σ') (hi : i < m) (h0 : i ≠ 0) : SameC σ σ' (N + i) := T.1 _ (by have := h.1; omega) (by omega)
def G8 (op : Nat → Nat) (N : Nat) (H : Hp) : Prop := H.I 19 (N + 8) = 0 ∧ ∀ j, j < 1000 → H.eA (N + 9) j = some (op 0)
def G12 (op : Nat → Nat) (N : Nat) (H : Hp) : Prop := ∀ j, j < 1000 → H.eA (N + 13) j = some (op 0)
theorem G8.mv {op : Nat → Nat} {N : Nat} {σ σ' : Hp} (h : G8 op N σ) (s1 : SameC σ σ' (N + 8)) (s2 : SameC σ σ' (N + 9)) : G8 op N σ' := ⟨(s1.2.2.1 19).1.trans h.1, fun j hj => by rw [s2.2.2.2.2.2]; exact h.2 j hj⟩
theorem G12.mv {op : Nat → Nat} {N : Nat} {σ σ' : Hp} (h : G12 op N σ) (s2 : SameC σ σ' (N + 13)) : G12 op N σ' := fun j hj => by rw [s2.2.2.2.2.2]; exact h j hj
def cT2 : List (Nat × Nat × Nat) := [(0, 0, 1), (0, 2, 2), (3, 11, 4), (3, 12, 5), (3, 13, 6), (3, 14, 7)]
def cT4 : List (Nat × Nat × Nat) := cT2 ++ [(0, 3, 3), (8, 15, 9), (8, 16, 10), (8, 17, 11)]
def cT6 : List (Nat × Nat × Nat) := cT4 ++ [(0, 4, 8), (12, 15, 13), (12, 16, 14), (12, 17, 15)]
def cT8 : List (Nat × Nat × Nat) := cT6 ++ [(0, 5, 12), (16, 27, 17), (16, 28, 1), (17, 20, 1)]
def cT10 : List (Nat × Nat × Nat) := cT8 ++ [(0, 6, 16), (18, 32, 19)]
def cT12 : List (Nat × Nat × Nat) := cT10 ++ [(0, 7, 18), (20, 36, 3)]
section CtorT
variable {z : State} {l : Launch} {d : Nat} {σ σ0 : Hp} {Q : Outcome → Hp → Prop} {op sg : Nat → Nat} {aO aS mO mS N : Nat}
theorem kt_101 (h : Jc op N 21 cT12 σ0 σ 20000) (g8 : G8 op N σ) (g12 : G12 op N σ) (hz : z.heap.size ≤ N) (k : ∀ H, (∀ a, a < N → SameC σ0 H a) → H.nx = N + 21 → H.sl ≤ σ0.sl + 20000 → C0 op H N → Q (.returned none) H) : Go z l mt_T_init (d + 11) 101 [.ref N] [.ref (N + 20), .ref N] σ Q := by
  refine ct_T_init_101 (d := d + 2) (h.tag0 (by decide)) hz (h.tag0 (by decide)) hz ?_
  obtain ⟨H, hH⟩ : ∃ H : Hp, H = ((σ.setA 8 N (some (N + 20))).setI 9 N (-1)).setI 10 N 0 := ⟨_, rfl⟩
  rw [← hH]
  have hI : H.I 9 N = -1 ∧ H.I 10 N = 0 ∧ H.I 1 N = σ.I 1 N ∧ H.A 8 N = some (N + 20) := by rw [hH]; simp [hq_newO_tag, hq_newO_len, hq_newO_I, hq_newO_J, hq_newO_A, hq_newO_eI, hq_newO_eJ, hq_newO_eA, hq_newO_nx, hq_newO_sl, hq_newA_tag, hq_newA_len, hq_newA_I, hq_newA_J, hq_newA_A, hq_newA_eI, hq_newA_eJ, hq_newA_eA, hq_newA_nx, hq_newA_sl, hq_setI_tag, hq_setI_len, hq_setI_I, hq_setI_J, hq_setI_A, hq_setI_eI, hq_setI_eJ, hq_setI_eA, hq_setI_nx, hq_setI_sl, hq_setJ_tag, hq_setJ_len, hq_setJ_I, hq_setJ_J, hq_setJ_A, hq_setJ_eI, hq_setJ_eJ, hq_setJ_eA, hq_setJ_nx, hq_setJ_sl, hq_setA_tag, hq_setA_len, hq_setA_I, hq_setA_J, hq_setA_A, hq_setA_eI, hq_setA_eJ, hq_setA_eA, hq_setA_nx, hq_setA_sl, hq_rowI_tag, hq_rowI_len, hq_rowI_I, hq_rowI_J, hq_rowI_A, hq_rowI_eI, hq_rowI_eJ, hq_rowI_eA, hq_rowI_nx, hq_rowI_sl, hq_rowJ_tag, hq_rowJ_len, hq_rowJ_I, hq_rowJ_J, hq_rowJ_A, hq_rowJ_eI, hq_rowJ_eJ, hq_rowJ_eA, hq_rowJ_nx, hq_rowJ_sl, hq_rowA_tag, hq_rowA_len, hq_rowA_I, hq_rowA_J, hq_rowA_A, hq_rowA_eI, hq_rowA_eJ, hq_rowA_eA, hq_rowA_nx, hq_rowA_sl, va_up, up2_if]
  have hA : ∀ g, g ≠ 8 → H.A g N = σ.A g N := fun g hg => by rw [hH]; exact up2_nf _ _ hg
  have q12 : ∀ a, a ≠ N → SameC σ H a := fun a ha => by rw [hH]; exact ((SameC.setA ha).trans (SameC.setI ha)).trans (SameC.setI ha)
  have ne : ∀ i, i ≠ 0 → N + i ≠ N := fun i hi => by omega
  obtain ⟨h1, h2, h3, ⟨h4, h5, h6⟩, h7, h8, h9⟩ := h
  have g8' := g8.mv (q12 _ (ne 8 (by decide))) (q12 _ (ne 9 (by decide)))
  have g12' := g12.mv (q12 _ (ne 13 (by decide)))
  refine k H (fun a ha => (h7 a ha).trans (q12 a (by omega))) (by rw [hH]; exact h1) (by rw [hH]; exact h8) ⟨fun i hi => ?_, fun q hq => ?_, ⟨hI.2.2.1.trans h4, hI.1, hI.2.1, g8'.1⟩, fun j => ?_, fun j hj => ?_, fun j hj => ⟨g8'.2 j hj, g12' j hj⟩⟩
  · by_cases q0 : i = 0
    · subst q0
      rw [hH]
      exact h2 0 hi
    · rw [(q12 _ (ne i q0)).1, (q12 _ (ne i q0)).2.1]
      exact h2 i hi
  · by_cases q8 : q = (0, 8, 20)
    · rw [q8]
      exact hI.2.2.2
    · have hq' : q ∈ cT12 ∧ (q.1 = 0 → q.2.1 ≠ 8) := (show ∀ q ∈ cl_tab, q ≠ (0, 8, 20) → q ∈ cT12 ∧ (q.1 = 0 → q.2.1 ≠ 8) by decide) q hq q8
      have a2 := (h3 q hq'.1).2
      by_cases q0 : q.1 = 0
      · have e := hq'.2 q0
        rw [q0] at a2 ⊢
        exact (hA _ e).trans a2
      · exact ((q12 _ (ne _ q0)).2.2.1 _).2.2.trans a2
  · rw [(q12 _ (ne 1 (by decide))).2.2.2.1, (q12 _ (ne 2 (by decide))).2.2.2.1]
    exact h5 j
  · rw [(q12 _ (ne 4 (by decide))).2.2.2.1, (q12 _ (ne 5 (by decide))).2.2.2.2.1]
    exact h6 j hj
theorem kt_86 (h : Jc op N 20 cT10 σ0 σ 19026) (g8 : G8 op N σ) (g12 : G12 op N σ) (hz : z.heap.size ≤ N) (k : ∀ H, (∀ a, a < N → SameC σ0 H a) → H.nx = N + 21 → H.sl ≤ σ0.sl + 20000 → C0 op H N → Q (.returned none) H) : Go z l mt_T_init (d + 11) 86 [.ref N] [.ref (N + 18), .ref N] σ Q := by
  have hn := h.1
  have t := h.tag0 (by decide)
  have a3 : σ.A 3 N = some (N + 3) := (h.2.2.1 (0, 3, 3) (by decide)).2
  refine go_wf fun hw => ct_T_init_86 (d := d + 2) t hz t a3 ?_
  show Go z l mt_K_init (d + 10) 0 [.ref σ.nx, .ref (N + 3)] [] ((σ.setA 7 N (some (N + 18))).newO 7 3) (fun o σ1 => hp_Le ((σ.setA 7 N (some (N + 18))).newO 7 3) σ1 → gj_next z l mt_T_init (d + 11) 98 [.ref N] [.ref σ.nx, .ref N] Q o σ1)
  refine ki_K (d := d + 1) (ob := σ.nx) (hp_up_same _ _ _) (by omega) (fun σ' g n' l' lk _ => gj_nextV ?_)
  have T : Tn N 7 (N + 18) σ σ' := Tn.of (by omega) g
  have C := Tn.new hw g
  have y : σ'.sl = σ.sl + 3 := l'
  have n2 : σ'.nx = N + 21 := n'.trans (by show σ.nx + 1 = N + 21; omega)
  rw [hn] at lk C ⊢
  refine kt_101 (h.tn (m' := 21) (ls' := [(0, 7, 18), (20, 36, 3)]) (by decide) T (by decide) (by omega) n2 (fun i h1 h2 => ?_) (fun q hq => ?_) (by decide)) (g8.mv (h.sm T (by decide) (by decide)) (h.sm T (by decide) (by decide))) (g12.mv (h.sm T (by decide) (by decide))) hz k
  · obtain rfl : i = 20 := by omega
    exact C
  · simp only [List.mem_cons, List.not_mem_nil, or_false] at hq
    rcases hq with rfl | rfl
    · exact ⟨by decide, T.2.2.2.2⟩
    · exact ⟨by decide, lk⟩
theorem kt_75 (h : Jc op N 18 cT8 σ0 σ 18022) (g8 : G8 op N σ) (g12 : G12 op N σ) (hz : z.heap.size ≤ N) (k : ∀ H, (∀ a, a < N → SameC σ0 H a) → H.nx = N + 21 → H.sl ≤ σ0.sl + 20000 → C0 op H N → Q (.returned none) H) : Go z l mt_T_init (d + 11) 75 [.ref N] [.ref (N + 16), .ref N] σ Q := by
  have hn := h.1
  have t := h.tag0 (by decide)
  refine go_wf fun hw => ct_T_init_75 (d := d + 2) t hz ?_
  show Go z l mt_C_init (d + 10) 0 [.ref σ.nx] [] ((σ.setA 6 N (some (N + 16))).newO 6 4) (fun o σ1 => hp_Le ((σ.setA 6 N (some (N + 16))).newO 6 4) σ1 → gj_next z l mt_T_init (d + 11) 83 [.ref N] [.ref σ.nx, .ref N] Q o σ1)
  refine ki_C (d := d + 1) (ob := σ.nx) (hp_up_same _ _ _) (by omega) (fun σ' g n' l' lk tg _ => gj_nextV ?_)
  have T : Tn N 6 (N + 16) σ σ' := Tn.of (by omega) g
  have C := Tn.new hw g
  have y : σ'.sl = σ.sl + 1004 := l'
  have f : ((σ.setA 6 N (some (N + 16))).newO 6 4).nx = N + 19 := by show σ.nx + 1 = N + 19; omega
  rw [f] at n' lk tg
  rw [hn] at lk C ⊢
  refine kt_86 (h.tn (m' := 20) (ls' := [(0, 6, 16), (18, 32, 19)]) (by decide) T (by decide) (by omega) n' (fun i h1 h2 => ?_) (fun q hq => ?_) (by decide)) (g8.mv (h.sm T (by decide) (by decide)) (h.sm T (by decide) (by decide))) (g12.mv (h.sm T (by decide) (by decide))) hz k
  · have : i = 18 ∨ i = 19 := by omega
    rcases this with rfl | rfl
    · exact C
    · exact tg
  · simp only [List.mem_cons, List.not_mem_nil, or_false] at hq
    rcases hq with rfl | rfl
    · exact ⟨by decide, T.2.2.2.2⟩
    · exact ⟨by decide, lk⟩
theorem kt_56 (hs : gj_St z op sg aO aS mO mS) (h : Jc op N 16 cT6 σ0 σ 18010) (g8 : G8 op N σ) (g12 : G12 op N σ) (hz : z.heap.size ≤ N) (k : ∀ H, (∀ a, a < N → SameC σ0 H a) → H.nx = N + 21 → H.sl ≤ σ0.sl + 20000 → C0 op H N → Q (.returned none) H) : Go z l mt_T_init (d + 11) 56 [.ref N] [.ref (N + 12), .ref N] σ Q := by
  have hn := h.1
  have t := h.tag0 (by decide)
  have a0 : σ.A 0 N = some (N + 1) := (h.2.2.1 (0, 0, 1) (by decide)).2
  refine go_wf fun hw => ct_T_init_56 (d := d + 2) t hz t a0 (b7 := N + 12) (show up2 σ.A 5 N (some (N + 12)) 5 N = some (N + 12) from up2_same _ _ _ _) ?_
  show Go z l mt_P_init (d + 10) 0 [.ref σ.nx, .ref (N + 1), .ref (N + 12)] [] ((σ.setA 5 N (some (N + 12))).newO 5 5) (fun o σ1 => hp_Le ((σ.setA 5 N (some (N + 12))).newO 5 5) σ1 → gj_next z l mt_T_init (d + 11) 72 [.ref N] [.ref σ.nx, .ref N] Q o σ1)
  refine ki_P (d := d) (ob := σ.nx) hs (hp_up_same _ _ _) (by omega) (fun σ' g n' l' lk tg _ => gj_nextV ?_)
  have T : Tn N 5 (N + 12) σ σ' := Tn.of (by omega) g
  have C := Tn.new hw g
  have y : σ'.sl = σ.sl + 12 := l'
  have f : ((σ.setA 5 N (some (N + 12))).newO 5 5).nx = N + 17 := by show σ.nx + 1 = N + 17; omega
  rw [f] at n' lk tg
  rw [hn] at lk C ⊢
  refine kt_75 (h.tn (m' := 18) (ls' := [(0, 5, 12), (16, 27, 17), (16, 28, 1), (17, 20, 1)]) (by decide) T (by decide) (by omega) n' (fun i h1 h2 => ?_) (fun q hq => ?_) (by decide)) (g8.mv (h.sm T (by decide) (by decide)) (h.sm T (by decide) (by decide))) (g12.mv (h.sm T (by decide) (by decide))) hz k
  · have : i = 16 ∨ i = 17 := by omega
    rcases this with rfl | rfl
    · exact C
    · exact tg
  · simp only [List.mem_cons, List.not_mem_nil, or_false] at hq
    rcases hq with rfl | rfl | rfl | rfl
    · exact ⟨by decide, T.2.2.2.2⟩
    · exact ⟨by decide, lk.1⟩
    · exact ⟨by decide, lk.2.1⟩
    · exact ⟨by decide, lk.2.2⟩
theorem kt_45 (hs : gj_St z op sg aO aS mO mS) (h : Jc op N 12 cT4 σ0 σ 15005) (g8 : G8 op N σ) (hz : z.heap.size ≤ N) (k : ∀ H, (∀ a, a < N → SameC σ0 H a) → H.nx = N + 21 → H.sl ≤ σ0.sl + 20000 → C0 op H N → Q (.returned none) H) : Go z l mt_T_init (d + 11) 45 [.ref N] [.ref (N + 8), .ref N] σ Q := by
  have hn := h.1
  have t := h.tag0 (by decide)
  have hop := h.2.2.2.2.2.2.2
  refine go_wf fun hw => ct_T_init_45 (d := d + 2) t hz ?_
  show Go z l mt_G_init (d + 10) 0 [.ref σ.nx, .retAddr 0] [] ((σ.setA 4 N (some (N + 8))).newO 3 5) (fun o σ1 => hp_Le ((σ.setA 4 N (some (N + 8))).newO 3 5) σ1 → gj_next z l mt_T_init (d + 11) 53 [.ref N] [.ref σ.nx, .ref N] Q o σ1)
  refine ki_G (d := d + 1) (ob := σ.nx) hs (hp_up_same _ _ _) (by omega) ((hp_up_ne _ _ (by show op 0 ≠ σ.nx; omega)).trans h.op0) (fun σ' g n' l' lk tg ln i9 r _ => gj_nextV ?_)
  have T : Tn N 4 (N + 8) σ σ' := Tn.of (by omega) g
  have C := Tn.new hw g
  have y : σ'.sl = σ.sl + 5 + 3000 := l'
  have f : ((σ.setA 4 N (some (N + 8))).newO 3 5).nx = N + 13 := by show σ.nx + 1 = N + 13; omega
  rw [f] at n' lk tg ln r
  rw [hn] at lk C i9 ⊢
  refine kt_56 hs (h.tn (m' := 16) (ls' := [(0, 4, 8), (12, 15, 13), (12, 16, 14), (12, 17, 15)]) (by decide) T (by decide) (by omega) n' (fun i h1 h2 => ?_) (fun q hq => ?_) (by decide)) (g8.mv (h.sm T (by decide) (by decide)) (h.sm T (by decide) (by decide))) r hz k
  · have : i = 12 ∨ i = 13 ∨ i = 14 ∨ i = 15 := by omega
    rcases this with rfl | rfl | rfl | rfl
    · exact C
    · exact ⟨tg.1, ln.1⟩
    · exact ⟨tg.2.1, ln.2.1⟩
    · exact ⟨tg.2.2, ln.2.2⟩
  · simp only [List.mem_cons, List.not_mem_nil, or_false] at hq
    rcases hq with rfl | rfl | rfl | rfl
    · exact ⟨by decide, T.2.2.2.2⟩
    · exact ⟨by decide, lk.1⟩
    · exact ⟨by decide, lk.2.1⟩
    · exact ⟨by decide, lk.2.2⟩
theorem kt_34 (hs : gj_St z op sg aO aS mO mS) (h : Jc op N 8 cT2 σ0 σ 12000) (hz : z.heap.size ≤ N) (k : ∀ H, (∀ a, a < N → SameC σ0 H a) → H.nx = N + 21 → H.sl ≤ σ0.sl + 20000 → C0 op H N → Q (.returned none) H) : Go z l mt_T_init (d + 11) 34 [.ref N] [.ref (N + 3), .ref N] σ Q := by
  have hn := h.1
  have t := h.tag0 (by decide)
  have hop := h.2.2.2.2.2.2.2
  refine go_wf fun hw => ct_T_init_34 (d := d + 2) t hz ?_
  show Go z l mt_G_init (d + 10) 0 [.ref σ.nx, .retAddr 0] [] ((σ.setA 3 N (some (N + 3))).newO 3 5) (fun o σ1 => hp_Le ((σ.setA 3 N (some (N + 3))).newO 3 5) σ1 → gj_next z l mt_T_init (d + 11) 42 [.ref N] [.ref σ.nx, .ref N] Q o σ1)
  refine ki_G (d := d + 1) (ob := σ.nx) hs (hp_up_same _ _ _) (by omega) ((hp_up_ne _ _ (by show op 0 ≠ σ.nx; omega)).trans h.op0) (fun σ' g n' l' lk tg ln i9 r _ => gj_nextV ?_)
  have T : Tn N 3 (N + 3) σ σ' := Tn.of (by omega) g
  have C := Tn.new hw g
  have y : σ'.sl = σ.sl + 5 + 3000 := l'
  have f : ((σ.setA 3 N (some (N + 3))).newO 3 5).nx = N + 9 := by show σ.nx + 1 = N + 9; omega
  rw [f] at n' lk tg ln r
  rw [hn] at lk C i9 ⊢
  have h2 : Jc op N 12 cT4 σ0 σ' 15005 := h.tn (m' := 12) (ls' := [(0, 3, 3), (8, 15, 9), (8, 16, 10), (8, 17, 11)]) (by decide) T (by decide) (by omega) n' (fun i h1 h2 => by
    have : i = 8 ∨ i = 9 ∨ i = 10 ∨ i = 11 := by omega
    rcases this with rfl | rfl | rfl | rfl
    · exact C
    · exact ⟨tg.1, ln.1⟩
    · exact ⟨tg.2.1, ln.2.1⟩
    · exact ⟨tg.2.2, ln.2.2⟩) (fun q hq => by
    simp only [List.mem_cons, List.not_mem_nil, or_false] at hq
    rcases hq with rfl | rfl | rfl | rfl
    · exact ⟨by decide, T.2.2.2.2⟩
    · exact ⟨by decide, lk.1⟩
    · exact ⟨by decide, lk.2.1⟩
    · exact ⟨by decide, lk.2.2⟩) (by decide)
  exact kt_45 hs h2 ⟨i9, r⟩ hz k
theorem ki_T (hs : gj_St z op sg aO aS mO mS) (t : σ.tag N = 1) (hl : σ.len N = 0) (hn : σ.nx = N + 1) (hz : z.heap.size ≤ N) (top : σ.tag (op 0) = 20) (k : ∀ H, (∀ a, a < N → SameC σ H a) → H.nx = N + 21 → H.sl ≤ σ.sl + 20000 → C0 op H N → Q (.returned none) H) : Go z l mt_T_init (d + 11) 0 [.ref N] [] σ Q := by
  refine go_wf fun hw => ?_
  have hop : op 0 < N := by
    have h1 : op 0 < σ.nx := hw.lt (by rw [top]; decide)
    have h2 : op 0 ≠ N := fun e => by rw [e, t] at top; exact absurd top (by decide)
    omega
  have b1 := hw.1 (N + 1) (by omega)
  have b2 := hw.1 (N + 2) (by omega)
  have b3 := hw.1 (N + 3) (by omega)
  refine ct_T_init (d := d + 2) t hz ?_
  show Go z l mt_L_init (d + 10) 0 [.ref (σ.nx + 2), .retAddr 0] [] ((((((σ.newA 21 1000).setA 0 N (some σ.nx)).setI 1 N 0).newA 22 8).setA 2 N (some (σ.nx + 1))).newO 2 4) (fun o σ1 => hp_Le ((((((σ.newA 21 1000).setA 0 N (some σ.nx)).setI 1 N 0).newA 22 8).setA 2 N (some (σ.nx + 1))).newO 2 4) σ1 → gj_next z l mt_T_init (d + 11) 31 [.ref N] [.ref (σ.nx + 2), .ref N] Q o σ1)
  rw [hn]
  obtain ⟨X, hX⟩ : ∃ X : Hp, X = ((((((σ.newA 21 1000).setA 0 N (some (N + 1))).setI 1 N 0).newA 22 8).setA 2 N (some (N + 1 + 1))).newO 2 4) := ⟨_, rfl⟩
  rw [← hX]
  have kX : Kp N σ X := by rw [hX]; exact (Kp.rfl' N σ).newA.setA.setI.newA.setA.newO
  have eA : X.A 0 N = some (N + 1) ∧ X.A 2 N = some (N + 2) ∧ X.I 1 N = 0 := by rw [hX]; simp [hq_newO_tag, hq_newO_len, hq_newO_I, hq_newO_J, hq_newO_A, hq_newO_eI, hq_newO_eJ, hq_newO_eA, hq_newO_nx, hq_newO_sl, hq_newA_tag, hq_newA_len, hq_newA_I, hq_newA_J, hq_newA_A, hq_newA_eI, hq_newA_eJ, hq_newA_eA, hq_newA_nx, hq_newA_sl, hq_setI_tag, hq_setI_len, hq_setI_I, hq_setI_J, hq_setI_A, hq_setI_eI, hq_setI_eJ, hq_setI_eA, hq_setI_nx, hq_setI_sl, hq_setJ_tag, hq_setJ_len, hq_setJ_I, hq_setJ_J, hq_setJ_A, hq_setJ_eI, hq_setJ_eJ, hq_setJ_eA, hq_setJ_nx, hq_setJ_sl, hq_setA_tag, hq_setA_len, hq_setA_I, hq_setA_J, hq_setA_A, hq_setA_eI, hq_setA_eJ, hq_setA_eA, hq_setA_nx, hq_setA_sl, hq_rowI_tag, hq_rowI_len, hq_rowI_I, hq_rowI_J, hq_rowI_A, hq_rowI_eI, hq_rowI_eJ, hq_rowI_eA, hq_rowI_nx, hq_rowI_sl, hq_rowJ_tag, hq_rowJ_len, hq_rowJ_I, hq_rowJ_J, hq_rowJ_A, hq_rowJ_eI, hq_rowJ_eJ, hq_rowJ_eA, hq_rowJ_nx, hq_rowJ_sl, hq_rowA_tag, hq_rowA_len, hq_rowA_I, hq_rowA_J, hq_rowA_A, hq_rowA_eI, hq_rowA_eJ, hq_rowA_eA, hq_rowA_nx, hq_rowA_sl, va_up, up2_if, hn, Nat.add_assoc]
  have eT : X.tag (N + 1) = 21 ∧ X.tag (N + 2) = 22 ∧ X.tag (N + 3) = 2 := by rw [hX]; simp [hq_newO_tag, hq_newO_len, hq_newO_I, hq_newO_J, hq_newO_A, hq_newO_eI, hq_newO_eJ, hq_newO_eA, hq_newO_nx, hq_newO_sl, hq_newA_tag, hq_newA_len, hq_newA_I, hq_newA_J, hq_newA_A, hq_newA_eI, hq_newA_eJ, hq_newA_eA, hq_newA_nx, hq_newA_sl, hq_setI_tag, hq_setI_len, hq_setI_I, hq_setI_J, hq_setI_A, hq_setI_eI, hq_setI_eJ, hq_setI_eA, hq_setI_nx, hq_setI_sl, hq_setJ_tag, hq_setJ_len, hq_setJ_I, hq_setJ_J, hq_setJ_A, hq_setJ_eI, hq_setJ_eJ, hq_setJ_eA, hq_setJ_nx, hq_setJ_sl, hq_setA_tag, hq_setA_len, hq_setA_I, hq_setA_J, hq_setA_A, hq_setA_eI, hq_setA_eJ, hq_setA_eA, hq_setA_nx, hq_setA_sl, hq_rowI_tag, hq_rowI_len, hq_rowI_I, hq_rowI_J, hq_rowI_A, hq_rowI_eI, hq_rowI_eJ, hq_rowI_eA, hq_rowI_nx, hq_rowI_sl, hq_rowJ_tag, hq_rowJ_len, hq_rowJ_I, hq_rowJ_J, hq_rowJ_A, hq_rowJ_eI, hq_rowJ_eJ, hq_rowJ_eA, hq_rowJ_nx, hq_rowJ_sl, hq_rowA_tag, hq_rowA_len, hq_rowA_I, hq_rowA_J, hq_rowA_A, hq_rowA_eI, hq_rowA_eJ, hq_rowA_eA, hq_rowA_nx, hq_rowA_sl, va_up, up2_if, hn, Nat.add_assoc]
  have eL : X.len (N + 1) = 1000 ∧ X.len (N + 2) = 8 ∧ X.len (N + 3) = 0 := by rw [hX]; simp [hq_newO_tag, hq_newO_len, hq_newO_I, hq_newO_J, hq_newO_A, hq_newO_eI, hq_newO_eJ, hq_newO_eA, hq_newO_nx, hq_newO_sl, hq_newA_tag, hq_newA_len, hq_newA_I, hq_newA_J, hq_newA_A, hq_newA_eI, hq_newA_eJ, hq_newA_eA, hq_newA_nx, hq_newA_sl, hq_setI_tag, hq_setI_len, hq_setI_I, hq_setI_J, hq_setI_A, hq_setI_eI, hq_setI_eJ, hq_setI_eA, hq_setI_nx, hq_setI_sl, hq_setJ_tag, hq_setJ_len, hq_setJ_I, hq_setJ_J, hq_setJ_A, hq_setJ_eI, hq_setJ_eJ, hq_setJ_eA, hq_setJ_nx, hq_setJ_sl, hq_setA_tag, hq_setA_len, hq_setA_I, hq_setA_J, hq_setA_A, hq_setA_eI, hq_setA_eJ, hq_setA_eA, hq_setA_nx, hq_setA_sl, hq_rowI_tag, hq_rowI_len, hq_rowI_I, hq_rowI_J, hq_rowI_A, hq_rowI_eI, hq_rowI_eJ, hq_rowI_eA, hq_rowI_nx, hq_rowI_sl, hq_rowJ_tag, hq_rowJ_len, hq_rowJ_I, hq_rowJ_J, hq_rowJ_A, hq_rowJ_eI, hq_rowJ_eJ, hq_rowJ_eA, hq_rowJ_nx, hq_rowJ_sl, hq_rowA_tag, hq_rowA_len, hq_rowA_I, hq_rowA_J, hq_rowA_A, hq_rowA_eI, hq_rowA_eJ, hq_rowA_eA, hq_rowA_nx, hq_rowA_sl, va_up, up2_if, hn, Nat.add_assoc, b3.2.1]
  have eN : X.nx = N + 4 ∧ X.sl = σ.sl + 1012 := by rw [hX]; simp [hq_newO_tag, hq_newO_len, hq_newO_I, hq_newO_J, hq_newO_A, hq_newO_eI, hq_newO_eJ, hq_newO_eA, hq_newO_nx, hq_newO_sl, hq_newA_tag, hq_newA_len, hq_newA_I, hq_newA_J, hq_newA_A, hq_newA_eI, hq_newA_eJ, hq_newA_eA, hq_newA_nx, hq_newA_sl, hq_setI_tag, hq_setI_len, hq_setI_I, hq_setI_J, hq_setI_A, hq_setI_eI, hq_setI_eJ, hq_setI_eA, hq_setI_nx, hq_setI_sl, hq_setJ_tag, hq_setJ_len, hq_setJ_I, hq_setJ_J, hq_setJ_A, hq_setJ_eI, hq_setJ_eJ, hq_setJ_eA, hq_setJ_nx, hq_setJ_sl, hq_setA_tag, hq_setA_len, hq_setA_I, hq_setA_J, hq_setA_A, hq_setA_eI, hq_setA_eJ, hq_setA_eA, hq_setA_nx, hq_setA_sl, hq_rowI_tag, hq_rowI_len, hq_rowI_I, hq_rowI_J, hq_rowI_A, hq_rowI_eI, hq_rowI_eJ, hq_rowI_eA, hq_rowI_nx, hq_rowI_sl, hq_rowJ_tag, hq_rowJ_len, hq_rowJ_I, hq_rowJ_J, hq_rowJ_A, hq_rowJ_eI, hq_rowJ_eJ, hq_rowJ_eA, hq_rowJ_nx, hq_rowJ_sl, hq_rowA_tag, hq_rowA_len, hq_rowA_I, hq_rowA_J, hq_rowA_A, hq_rowA_eI, hq_rowA_eJ, hq_rowA_eA, hq_rowA_nx, hq_rowA_sl, va_up, up2_if, hn, Nat.add_assoc]
  have eE : ∀ j, X.eI (N + 1) j = 0 ∧ X.eI (N + 2) j = 0 := fun j => by rw [hX]; exact ⟨(b1.2.2.2 j).1, (b2.2.2.2 j).1⟩
  have xN : X.tag N = 1 ∧ X.len N = 0 := ⟨(kX.2.2 (by omega)).1.trans t, (kX.2.2 (by omega)).2.trans hl⟩
  refine ki_L (d := d + 1) (ob := N + 3) eT.2.2 (by omega) (fun σ2 g2 n2 l2 lk2 tg2 ln2 r2 j2 _ => gj_nextV ?_)
  rw [eN.1] at n2 lk2 tg2 ln2 r2 j2
  rw [eN.2] at l2
  have s2 : ∀ a, a < N + 4 → a ≠ N + 3 → SameC X σ2 a := fun a h1 h2 => g2.2.1 a (by rw [eN.1]; exact h1) h2
  have w2 := g2.2.2 (by rw [eN.1]; omega)
  have N2 := s2 N (by omega) (by omega)
  have m1 := s2 (N + 1) (by omega) (by omega)
  have m2 := s2 (N + 2) (by omega) (by omega)
  refine kt_34 hs ⟨n2, fun i hi => ?_, fun q hq => ?_, ⟨(N2.2.2.1 1).1.trans eA.2.2, fun j => ?_, fun j hj => ⟨r2 j hj, j2 j⟩⟩, fun a ha => (kX.2.1 a (by omega) (by omega)).trans (s2 a (by omega) (by omega)), by omega, top, hop⟩ hz k
  · have : i = 0 ∨ i = 1 ∨ i = 2 ∨ i = 3 ∨ i = 4 ∨ i = 5 ∨ i = 6 ∨ i = 7 := by omega
    rcases this with rfl | rfl | rfl | rfl | rfl | rfl | rfl | rfl
    · exact ⟨N2.1.trans xN.1, N2.2.1.trans xN.2⟩
    · exact ⟨m1.1.trans eT.1, m1.2.1.trans eL.1⟩
    · exact ⟨m2.1.trans eT.2.1, m2.2.1.trans eL.2.1⟩
    · exact ⟨w2.1.trans eT.2.2, w2.2.trans eL.2.2⟩
    · exact ⟨tg2.1, ln2.1⟩
    · exact ⟨tg2.2.1, ln2.2.1⟩
    · exact ⟨tg2.2.2.1, ln2.2.2.1⟩
    · exact ⟨tg2.2.2.2, ln2.2.2.2⟩
  · simp only [cT2, List.mem_cons, List.not_mem_nil, or_false] at hq
    rcases hq with rfl | rfl | rfl | rfl | rfl | rfl
    · exact ⟨by decide, (N2.2.2.1 0).2.2.trans eA.1⟩
    · exact ⟨by decide, (N2.2.2.1 2).2.2.trans eA.2.1⟩
    · exact ⟨by decide, lk2.1⟩
    · exact ⟨by decide, lk2.2.1⟩
    · exact ⟨by decide, lk2.2.2.1⟩
    · exact ⟨by decide, lk2.2.2.2⟩
  · rw [m1.2.2.2.1, m2.2.2.2.1]
    exact eE j
end CtorT
