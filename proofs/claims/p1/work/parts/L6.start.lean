/-! ===== both benches at their start ===== -/
/-- the world that stands in a heap -/
def rdw (H : Hp) (ad : Nat → Nat) : Wd := (fun i f => H.I f (ad i), fun i f => H.J f (ad i), fun i f => H.A f (ad i), fun i => H.eI (ad i), fun i => H.eJ (ad i), fun i => H.eA (ad i))
theorem rdw_ov {H : Hp} {ad : Nat → Nat} {n : Nat} (hi : ov_inj ad n) : H = ov H ad n (rdw H ad) :=
  ov_reN (σ := H) hi (fun i h => ⟨rfl, rfl, fun f => ⟨(ov_I (σ := H) (w := rdw H ad) hi h).symm, (ov_J (σ := H) (w := rdw H ad) hi h).symm, (ov_A (σ := H) (w := rdw H ad) hi h).symm⟩, (ov_eI (σ := H) (w := rdw H ad) hi h).symm, (ov_eJ (σ := H) (w := rdw H ad) hi h).symm, (ov_eA (σ := H) (w := rdw H ad) hi h).symm⟩)
def ab0 : Ab := (fun _ => 0, 0, fun _ => 0, fun _ => v_null, v_null, none, -1, 0)
theorem ab0_ok : ab0.ok := ⟨Nat.zero_le _, fun r _ => ⟨Or.inl rfl, ty_nul9 _⟩, (ty_nul9 0).1, (ty_nul9 0).2.1⟩
theorem C0.mv {op : Nat → Nat} {N : Nat} {σ σ' : Hp} (h : C0 op σ N) (f : ∀ i, i < 21 → SameC σ σ' (N + i)) : C0 op σ' N := by
  obtain ⟨h1, h2, ⟨h3, h4, h5, h6⟩, h7, h8, h9⟩ := h
  have f0 := f 0 (by decide)
  refine ⟨fun i hi => ?_, fun q hq => ?_, ⟨(f0.2.2.1 1).1.trans h3, (f0.2.2.1 9).1.trans h4, (f0.2.2.1 10).1.trans h5, ((f 8 (by decide)).2.2.1 19).1.trans h6⟩, fun j => ?_, fun j hj => ?_, fun j hj => ?_⟩
  · rw [(f i hi).1, (f i hi).2.1]
    exact h1 i hi
  · rw [((f q.1 ((show ∀ q ∈ cl_tab, q.1 < 21 by decide) q hq)).2.2.1 _).2.2]
    exact h2 q hq
  · rw [(f 1 (by decide)).2.2.2.1, (f 2 (by decide)).2.2.2.1]
    exact h7 j
  · rw [(f 4 (by decide)).2.2.2.1, (f 5 (by decide)).2.2.2.2.1]
    exact h8 j hj
  · rw [(f 9 (by decide)).2.2.2.2.2, (f 13 (by decide)).2.2.2.2.2]
    exact h9 j hj
section Start
variable {z : State} {l : Launch} {d : Nat} {σ : Hp} {Q : Outcome → Hp → Prop} {op sg : Nat → Nat} {aO aS mO mS N B b L : Nat}
theorem ci_start {H : Hp} (h : C0 op H N) (hz : z.heap.size ≤ N) (hs : gj_St z op sg aO aS mO mS) (hop : ∀ i, i < 43 → H.tag (op i) = 20) (hW : WSt z H op sg 0) : ov_inj (fun i => N + i) 21 ∧ CI z H (fun i => N + i) op sg aO aS mO mS (rdw H (fun i => N + i)) ab0 := by
  have hi : ov_inj (fun i => N + i) 21 := fun i j _ _ e => by
    have e' : N + i = N + j := e
    omega
  obtain ⟨h1, h2, ⟨h3, h4, h5, h6⟩, h7, h8, h9⟩ := h
  refine ⟨hi, ⟨⟨hi, fun i hi => ⟨(h1 i hi).1, (h1 i hi).2, by show z.heap.size ≤ N + i; omega⟩⟩, hs, hop, hW⟩, fun q hq => h2 q hq, h3, ?_, fun r _ => (h7 r).2, ⟨fun _ => v_null, fun s hs9 => ⟨⟨(h8 s hs9).1, (h8 s hs9).2, fun i hi => absurd hi (Nat.not_lt_zero _)⟩, (ty_nul9 0).1⟩, fun _ _ => rfl, rfl⟩, h4, h5, h6, ⟨fun _ => 0, fun j hj => ⟨(h9 j hj).1, show (0 : Nat) < 43 by decide⟩⟩, ⟨fun _ => 0, fun j hj => ⟨(h9 j hj).2, show (0 : Nat) < 43 by decide⟩⟩⟩
  funext j
  exact (h7 j).1
def amx (B i : Nat) : Nat := B + [0, 1, 6, 7, 8, 5, 4].getD i 0
theorem amx_lt (B : Nat) : ∀ i, i < 7 → B ≤ amx B i ∧ amx B i < B + 9 ∧ amx B i ≠ B + 2 ∧ amx B i ≠ B + 3 := fun i hi => by
  have h : ∀ i, i < 7 → [0, 1, 6, 7, 8, 5, 4].getD i 0 < 9 ∧ [0, 1, 6, 7, 8, 5, 4].getD i 0 ≠ 2 ∧ [0, 1, 6, 7, 8, 5, 4].getD i 0 ≠ 3 := by decide
  have := h i hi
  unfold amx
  omega
theorem amx_inj (B : Nat) : ov_inj (amx B) 7 := fun i j hi hj e => by
  have h : ∀ i, i < 7 → ∀ j, j < 7 → [0, 1, 6, 7, 8, 5, 4].getD i 0 = [0, 1, 6, 7, 8, 5, 4].getD j 0 → i = j := by decide
  refine h i hi j hj ?_
  unfold amx at e
  omega
theorem mi_start {σ0 H : Hp} (hM : M0 z B σ0 H) (hst : MSt z (H.newA 23 1)) : MI z (H.newA 23 1) (amx B) (rdw (H.newA 23 1) (amx B)) ab0 B (B + 27) (H.newA 23 1).nx (H.newA 23 1).sl := by
  obtain ⟨⟨a1, a2, a3, ⟨a4, a5⟩, a6, a7, a8, a9⟩, b60, ⟨r1, r2⟩, hV, e6, e7, e8⟩ := hM
  have S : ∀ i, i < 27 → SameC H (H.newA 23 1) (B + i) := fun i hi => SameC.newA (by omega)
  have T : ∀ i, i < 27 → (H.newA 23 1).tag (B + i) = (mk_tl i).1 ∧ (H.newA 23 1).len (B + i) = (mk_tl i).2 := fun i hi => ⟨(S i hi).1.trans (a2 i hi).1, (S i hi).2.1.trans (a2 i hi).2⟩
  have am_at : ∀ i, i < 7 → (mk_tl ([0, 1, 6, 7, 8, 5, 4].getD i 0)).1 = cm_tag i ∧ (mk_tl ([0, 1, 6, 7, 8, 5, 4].getD i 0)).2 = cm_len i ∧ [0, 1, 6, 7, 8, 5, 4].getD i 0 < 27 := by decide
  have hc : CM z (H.newA 23 1) (amx B) := ⟨amx_inj B, fun i hi => by
    obtain ⟨q1, q2, q3⟩ := am_at i hi
    have t := T _ q3
    exact ⟨t.1.trans q1, t.2.trans q2, by have := (amx_lt B i hi).1; omega⟩⟩
  have hmx : ∀ x, x = B + 2 ∨ x = B + 3 ∨ B + 9 ≤ x → mx (amx B) x := fun x hx i hi e => by
    have := amx_lt B i hi
    omega
  have vt : ∀ j, 9 ≤ j → j < 27 → j % 2 = 1 → mk_tl j = (10, 0) := fun j h1 h2 h3 => by unfold mk_tl; rw [if_neg (by omega), if_pos h3]
  have tt : ∀ j, 9 ≤ j → j < 27 → j % 2 = 0 → mk_tl j = (21, 40) := fun j h1 h2 h3 => by unfold mk_tl; rw [if_neg (by omega), if_neg (by omega)]
  have hVM : ∀ j, 9 ≤ j → j + 1 < 27 → j % 2 = 1 → VM (H.newA 23 1) (amx B) (B + j) v_null ∧ (H.newA 23 1).A 73 (B + j) = some (B + (j + 1)) := fun j h1 h2 h3 => by
    obtain ⟨v1, v2, v3⟩ := hV j h1 h2 h3
    have t1 := T j (by omega)
    have t2 := T (j + 1) (by omega)
    rw [vt j h1 (by omega) h3] at t1
    rw [tt (j + 1) (by omega) (by omega) (by omega)] at t2
    exact ⟨⟨t1.1, v1, fun q => (by rcases q with q | q <;> exact absurd q (by decide)), 0, Nat.zero_le _, v2, B + (j + 1), v3, t2.1, hmx _ (by omega), t2.2, fun q => absurd q (by decide)⟩, v3⟩
  refine ⟨B + 28, fun i => if i < 8 then B + (11 + 2 * i) else B + 9, fun i => if i < 8 then B + (11 + 2 * i + 1) else B + (9 + 1), fun _ => v_null, (B + 2, 64, 0, 0, fun _ => 0, fun _ => 0), B + 3, ⟨hc, fun q hq => ?_, hst, a9, fun i hi => by have := amx_lt B i hi; omega, by show B + 28 ≤ H.nx + 1; omega, fun k hk => r2 k hk⟩, ⟨?_, by omega, by omega⟩, ⟨⟨fun i hi => ?_, fun i j hi hj e => ?_⟩, fun r hr => ?_, ?_, fun _ _ => rfl, rfl⟩, ⟨?_, (T 3 (by decide)).1, hmx _ (by omega), ⟨by omega, by show B + 3 < H.nx + 1; omega⟩, ?_, fun i hi => ?_⟩, ⟨⟨?_, (T 2 (by decide)).1, hmx (B + 2) (Or.inl rfl), by show z.heap.size ≤ B + 2; omega, (T 2 (by decide)).2, ?_, Nat.le_refl _, Nat.zero_le _, Nat.zero_le _, by show 64 ≤ 8000; decide, by show 1 ≤ 64; decide, fun i hi => absurd hi (Nat.not_lt_zero _), fun i _ _ => r1 i, fun i j hi => absurd hi (Nat.not_lt_zero _)⟩, ⟨by show B ≤ B + 2; omega, by show B + 2 < H.nx + 1; omega⟩, fun i hi => absurd hi (Nat.not_lt_zero _)⟩, ?_, ⟨?_, ?_, fun r hr => ?_, b60, ?_⟩, ?_, ?_⟩
  · simp only [mn_tab, List.mem_cons, List.not_mem_nil, or_false] at hq
    rcases hq with rfl | rfl | rfl | rfl | rfl | rfl
    · exact a3 (39, 1) (by decide)
    · exact a3 (52, 4) (by decide)
    · exact a3 (53, 5) (by decide)
    · exact a3 (54, 6) (by decide)
    · exact a3 (56, 7) (by decide)
    · exact a3 (57, 8) (by decide)
  · rw [← a1]
    exact hp_up_same _ _ _
  · show VM (H.newA 23 1) (amx B) (if i < 8 then B + (11 + 2 * i) else B + 9) v_null ∧ (H.newA 23 1).A 73 (if i < 8 then B + (11 + 2 * i) else B + 9) = some (if i < 8 then B + (11 + 2 * i + 1) else B + (9 + 1)) ∧ (B ≤ (if i < 8 then B + (11 + 2 * i) else B + 9) ∧ (if i < 8 then B + (11 + 2 * i) else B + 9) < B + 28) ∧ (B ≤ (if i < 8 then B + (11 + 2 * i + 1) else B + (9 + 1)) ∧ (if i < 8 then B + (11 + 2 * i + 1) else B + (9 + 1)) < B + 28)
    by_cases q : i < 8
    · rw [if_pos q, if_pos q]
      have h9 := hVM (11 + 2 * i) (by omega) (by omega) (by omega)
      exact ⟨h9.1, h9.2, by omega, by omega⟩
    · rw [if_neg q, if_neg q]
      have h9 := hVM 9 (by omega) (by omega) (by omega)
      exact ⟨h9.1, h9.2, by omega, by omega⟩
  · have e' : (if i < 8 then B + (11 + 2 * i) else B + 9) = (if j < 8 then B + (11 + 2 * j) else B + 9) ∨ (if i < 8 then B + (11 + 2 * i + 1) else B + (9 + 1)) = (if j < 8 then B + (11 + 2 * j + 1) else B + (9 + 1)) := e
    by_cases q : i < 8 <;> by_cases q2 : j < 8 <;> simp only [q, q2, if_true, if_false] at e' <;> omega
  · show (H.newA 23 1).eA (B + 7) r = some (if r < 8 then B + (11 + 2 * r) else B + 9)
    rw [if_pos hr]
    exact e7 r hr
  · exact a3 (59, 9) (by decide)
  · exact a3 (42, 3) (by decide)
  · rw [(T 3 (by decide)).2]
    exact ⟨by decide, by decide⟩
  · show B + 3 ≠ (if i < 8 then B + (11 + 2 * i + 1) else B + (9 + 1))
    by_cases q : i < 8
    · rw [if_pos q]; omega
    · rw [if_neg q]; omega
  · exact a3 (40, 2) (by decide)
  · exact a4 41 (by decide)
  · exact a5
  · exact a4 55 (by decide)
  · funext j
    exact e6 j
  · exact e8 r hr
  · exact a4 61 (by decide)
  · show (H.newA 23 1).nx + 20 * 0 ≤ (H.newA 23 1).nx + 2 * 0 + 64 + _
    omega
  · show (H.newA 23 1).sl + 360 * 0 ≤ (H.newA 23 1).sl + 44 * 0 + 2 * 64 + _
    omega
/-- the law answers true -/
theorem kl_law (hs : gj_St z op sg aO aS mO mS) (hz : va_Nc "java/lang/ArithmeticException" "java/lang/IllegalStateException" z) (hn : σ.nx = z.heap.size) (hop : ∀ i, i < 43 → σ.tag (op i) = 20 ∧ op i < z.heap.size) (hW : WSt z σ op sg 0) (hM : MSt z σ) (tb : σ.tag b = 22) (hb : b < z.heap.size) (hl : σ.len b = L) (hL : L ≤ 6) (kQ : ∀ H : Hp, H.nx ≤ σ.nx + 300000 → H.sl ≤ σ.sl + 4000000 → Q (.returned (some (.int 1))) H) : Go z l mt_A_law (d + 900) 0 [.ref b, .retAddr 0, .retAddr 0, .retAddr 0, .retAddr 0, .retAddr 0, .retAddr 0, .retAddr 0] [] σ Q := by
  refine go_wf fun hw => ll_0 (d := d + 891) ?_
  have bl := hw.1 σ.nx (Nat.le_refl _)
  refine ki_T (d := d + 888) (N := σ.nx) (op := op) hs (hp_up_same _ _ _) bl.2.1 rfl (by omega) ((hp_up_ne _ _ (by have := (hop 0 (by decide)).2; omega)).trans (hop 0 (by decide)).1) (fun H1 f1 n1 s1 c1 _ => gj_nextV ?_)
  have o1 : ∀ a, a < σ.nx → SameC σ H1 a := fun a ha => (SameC.newO ha).trans (f1 a ha)
  have s1' : H1.sl ≤ σ.sl + 11 + 20000 := s1
  refine go_wf fun hw1 => ll_7 (d := d + 891) ?_
  have bl1 := hw1.1 H1.nx (Nat.le_refl _)
  have o2 : ∀ a, a < H1.nx → SameC H1 (H1.newO 8 24) a := fun a ha => SameC.newO ha
  refine ki_M (d := d + 886) (B := H1.nx) (hp_up_same _ _ _) bl1.2.1 rfl (by omega) ⟨fun g => (bl1.2.2.1 g).1, (bl1.2.2.1 58).2.2⟩ (fun j hj => ?_) (fun H2 m2 _ => gj_nextV ?_)
  · obtain ⟨q1, -, q3, -⟩ := cmp_str hM j hj
    exact ⟨(o2 _ (by omega)).1.trans ((o1 _ (by omega)).1.trans q1), by omega⟩
  have n2 : H2.nx = H1.nx + 27 := m2.1.1
  have s2 : H2.sl ≤ H1.sl + 24 + 3000 := m2.1.2.2.2.2.2.1
  have o3 : ∀ a, a < H1.nx → SameC H1 (H2.newA 23 1) a := fun a ha => ((o2 a ha).trans (m2.1.2.2.2.2.1 a ha)).trans (SameC.newA (by omega))
  have o4 : ∀ a, a < σ.nx → SameC σ (H2.newA 23 1) a := fun a ha => (o1 a ha).trans (o3 a (by omega))
  have oz : ∀ a, a < z.heap.size → SameC σ (H2.newA 23 1) a := fun a ha => o4 a (by omega)
  refine ll_15 (d := d + 891) ?_
  have c3 : C0 op (H2.newA 23 1) σ.nx := c1.mv (fun i hi => o3 _ (by omega))
  have hW3 : WSt z (H2.newA 23 1) op sg 0 := ⟨fun i hi => by
    obtain ⟨a9, q1, q2⟩ := hW.1 i hi
    exact ⟨a9, q1, q2.mv oz⟩, fun h => absurd h (Nat.lt_irrefl 0)⟩
  obtain ⟨hi, hci⟩ := ci_start (aO := aO) (aS := aS) (mO := mO) (mS := mS) c3 (by omega) hs (fun i hi => (oz _ (hop i hi).2).1.trans (hop i hi).1) hW3
  have hmi := mi_start m2 (hM.mv oz)
  have hJ : JI z (H2.newA 23 1) (fun i => σ.nx + i) (amx H1.nx) op sg aO aS mO mS ab0 ab0 H1.nx (H1.nx + 27) (H2.newA 23 1).nx (H2.newA 23 1).sl := ⟨⟨_, rdw_ov hi, hci⟩, ⟨_, rdw_ov (amx_inj _), hmi⟩, fun i hi => by show σ.nx + i < H1.nx; omega, by rw [← n2]; exact hp_up_same _ _ _⟩
  rw [n2]
  have e3 : (H2.newA 23 1).nx = H2.nx + 1 ∧ (H2.newA 23 1).sl = H2.sl + 1 := ⟨rfl, rfl⟩
  have g := kl_loop (l := l) (d := d) (Q := Q) (L := L) hz hb (show L ≤ 3072 by omega) (h0 := σ.nx) (C := σ.nx + 206000) (S := σ.sl + 3750000) (fun H h1 h2 => kQ H (by omega) (by omega)) 1 (H2.newA 23 1) (fun i => σ.nx + i) ab0 0 _ _ (by decide) (fun _ => rfl) hJ ab0_ok rfl ((oz b hb).1.trans tb) ((oz b hb).2.1.trans hl) (by omega) (by omega) (by omega) (by omega)
  exact g
end Start
