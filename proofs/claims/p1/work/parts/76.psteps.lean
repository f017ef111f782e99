/-! ===== the parser: its small steps, in a text that is not broken so far (cg_) and in a broken one (cb_) ===== -/
section Psteps
variable {z : State} {l : Launch} {d : Nat} {σ : Hp} {ad : Nat → Nat} {w : Wd} {Q : Outcome → Hp → Prop} {op sg : Nat → Nat} {aO aS mO mS : Nat} {T : Nat → Int32} {L : Nat} {p ops n c e : Nat} {ko : Nat → Nat}
/-- the cells, the constants -/
def PP (z : State) (σ : Hp) (ad op sg : Nat → Nat) (aO aS mO mS L : Nat) : Prop := CW z σ ad ∧ gj_St z op sg aO aS mO mS ∧ (∀ i, i < 43 → σ.tag (op i) = 20) ∧ WSt z σ op sg L
theorem sg_ne {i j : Nat} (hs : gj_St z op sg aO aS mO mS) (hi : i < 35) (hj : j < 35) (hn : i ≠ j) : ¬ some (sg i) = some (sg j) := fun q => hn (sg_inj hs hi hj q)
theorem GS.g (h : GS ad op sg T L w p ops n c ko) : tk_g T L p < 35 := (tk_le h.2.2.2.2.2.2.2.2.2.2.1).2.2.2.2.2.1
theorem BS.pf {w' : Wd} (h : BS ad op sg w e) (k : w'.A = w.A) (k2 : ∀ i f, ¬ (i = 17) → w'.I i f = w.I i f) (k3 : w'.eA = w.eA) : BS ad op sg w' e := by
  obtain ⟨b1, b2, b3, n, ko, b4, b5, b6⟩ := h
  exact ⟨by rw [k]; exact b1, (k2 _ _ (by decide)).trans b2, b3, n, ko, ⟨fun q hq => by rw [k]; exact b4.1 q hq, by rw [k]; exact b4.2.1, fun j hj => by rw [k3]; exact b4.2.2 j hj⟩, (k2 _ _ (by decide)).trans b5, b6⟩
/-- the next sign -/
theorem cg_next (hp : PP z σ ad op sg aO aS mO mS L) (hG : GS ad op sg T L w p ops n c ko) (k : ∀ w', NF w w' → GS ad op sg T L w' (tk_e T L p) ops n c ko → Q (.returned none) (ov σ ad 21 w')) : Go z l mt_S_next (d + 20) 0 [.ref (ad 17), .retAddr 0] [] (ov σ ad 21 w) Q := by
  obtain ⟨g1, g2, g3, g4, g5, g6, g7, g8, g9, g10, g11, g12, g13⟩ := hG
  have ht := tk_le (T := T) g11
  refine cl_next hp.1 hp.2.1 hp.2.2.2 g1.1 g2 g3 g12 g4.1 ht.2.2.1 (fun w' hf hk => k w' hf ⟨⟨g1.1.nf hf, (hf.2.2.1 _ _ (by decide)).trans g1.2.1, fun j hj => by rw [hf.2.2.2.2.2]; exact g1.2.2 j hj⟩, by rw [hf.2.2.2.1]; exact g2, (hf.1 _ _ (by decide)).trans g3, hk, (hf.1 _ _ (by decide)).trans g5, (hf.1 _ _ (by decide)).trans g6, (hf.1 _ _ (by decide)).trans g7, (hf.1 _ _ (by decide)).trans g8, by omega, by omega, ht.2.2.1, g12, g13⟩)
/-- the text breaks at e -/
theorem bs_at {x : Int32} {e : Nat} (hP : PL ad op w ko) (hn : w.I 12 19 = nI n) (hn9 : n ≤ 1000) (hx : x = nI e) (he : e ≤ 1000) : BS ad op sg ((w.setI 16 30 x).setA 17 23 (some (sg 34))) e :=
  ⟨rfl, hx, he, n, ko, ⟨hP.1.nf (w := w.setI 16 30 x) (nf_23 _ _), hP.2.1, hP.2.2⟩, hn, hn9⟩
theorem bs_stop (h : BS ad op sg w e) : BS ad op sg (w.setA 17 23 (some (sg 34))) e := by
  obtain ⟨b1, b2, b3, n, ko, b4, b5, b6⟩ := h
  exact ⟨rfl, b2, b3, n, ko, ⟨b4.1.nf (nf_23 _ _), b4.2.1, b4.2.2⟩, b5, b6⟩
theorem pf_stop (w : Wd) : PF w (w.setA 17 23 (some (sg 34))) := PF.nf (nf_23 _ _)
theorem pf_at (w : Wd) (x : Int32) : PF w ((w.setI 16 30 x).setA 17 23 (some (sg 34))) := (pf_I16 _ _ _).trans (PF.nf (nf_23 _ _))
theorem gs_1000 (h : GS ad op sg T L w p ops n c ko) : tk_s T L p ≤ L ∧ L ≤ 1000 ∧ n ≤ 1000 := by
  obtain ⟨g1, g2, g3, g4, g5, g6, g7, g8, g9, g10, g11, g12, g13⟩ := h
  have ht := tk_le (T := T) g11
  omega
theorem gs_break (hG : GS ad op sg T L w p ops n c ko) : BS ad op sg ((w.setI 16 30 (w.I 17 24)).setA 17 23 (some (sg 34))) (tk_s T L p) := by
  have := gs_1000 hG
  obtain ⟨g1, g2, g3, g4, g5, g6, g7, g8, g9, g10, g11, g12, g13⟩ := hG
  exact bs_at g1 g7 (by omega) g4.2.1 (by omega)
theorem cg_breakHere (hp : PP z σ ad op sg aO aS mO mS L) (hG : GS ad op sg T L w p ops n c ko) (k : ∀ w', PF w w' → BS ad op sg w' (tk_s T L p) → Q (.returned none) (ov σ ad 21 w')) : Go z l mt_P_breakHere (d + 9) 0 [.ref (ad 16)] [] (ov σ ad 21 w) Q :=
  cs_P_breakHere (d := d) hp.1 hp.2.1 hG.1.1 (fun h => absurd hG.2.2.2.2.1 h) (fun _ => k _ (pf_at _ _) (gs_break hG))
theorem cb_breakHere (hp : PP z σ ad op sg aO aS mO mS L) (hB : BS ad op sg w e) (k : ∀ w', PF w w' → BS ad op sg w' e → Q (.returned none) (ov σ ad 21 w')) : Go z l mt_P_breakHere (d + 9) 0 [.ref (ad 16)] [] (ov σ ad 21 w) Q := by
  obtain ⟨b1, b2, b3, n, ko, b4, b5, b6⟩ := id hB
  exact cs_P_breakHere (d := d) hp.1 hp.2.1 b4.1 (fun _ => k _ (pf_stop _) (bs_stop hB)) (fun h => absurd h (by rw [b2]; exact n1_ne b3))
theorem cb_breakAt {x : Int32} (hp : PP z σ ad op sg aO aS mO mS L) (hB : BS ad op sg w e) (k : ∀ w', PF w w' → BS ad op sg w' e → Q (.returned none) (ov σ ad 21 w')) : Go z l mt_P_breakAt (d + 9) 0 [.ref (ad 16), .int x] [] (ov σ ad 21 w) Q := by
  obtain ⟨b1, b2, b3, n, ko, b4, b5, b6⟩ := id hB
  exact cs_P_breakAt (d := d) hp.1 hp.2.1 b4.1 (fun _ => k _ (pf_stop _) (bs_stop hB)) (fun h => absurd h (by rw [b2]; exact n1_ne b3))
theorem cg_take {g : Nat} (hp : PP z σ ad op sg aO aS mO mS L) (hg : g < 35) (hG : GS ad op sg T L w p ops n c ko) (ky : tk_g T L p = g → ∀ w', NF w w' → GS ad op sg T L w' (tk_e T L p) ops n c ko → Q (.returned none) (ov σ ad 21 w')) (kn : ¬ tk_g T L p = g → ∀ w', PF w w' → BS ad op sg w' (tk_s T L p) → Q (.returned none) (ov σ ad 21 w')) : Go z l mt_P_take (d + 21) 0 [.ref (ad 16), .ref (sg g)] [] (ov σ ad 21 w) Q := by
  refine cs_P_take (d := d + 12) hp.1 hp.2.1 hG.1.1 hG.2.2.2.1.2.2.2.1 (fun _ h => absurd hG.2.2.2.2.1 h) (fun h _ => kn (fun q => h (by rw [q])) _ (pf_at _ _) (gs_break hG)) (fun h => ?_)
  exact cg_next (d := d) hp hG (fun w' hf hG' _ => gj_nextV (cs_P_take_18 (d := d + 12) hp.1 hp.2.1 (ky (sg_inj hp.2.1 hG.g hg h) w' hf hG')))
theorem cb_take {g : Nat} (hp : PP z σ ad op sg aO aS mO mS L) (hg : g < 34) (hB : BS ad op sg w e) (k : ∀ w', PF w w' → BS ad op sg w' e → Q (.returned none) (ov σ ad 21 w')) : Go z l mt_P_take (d + 9) 0 [.ref (ad 16), .ref (sg g)] [] (ov σ ad 21 w) Q := by
  obtain ⟨b1, b2, b3, n, ko, b4, b5, b6⟩ := id hB
  exact cs_P_take (d := d) hp.1 hp.2.1 b4.1 b1 (fun _ _ => k _ (pf_stop _) (bs_stop hB)) (fun _ h => absurd h (by rw [b2]; exact n1_ne b3)) (fun h => absurd h (sg_ne hp.2.1 (by decide) (by omega) (by omega)))
/-- an operator is taken; the 301st breaks the text -/
theorem cg_oper (hp : PP z σ ad op sg aO aS mO mS L) (hG : GS ad op sg T L w p ops n c ko) (ky : ¬ 300 ≤ ops → ∀ w', PF w w' → w'.eJ = w.eJ → w'.eI = w.eI → GS ad op sg T L w' (tk_e T L p) (ops + 1) n c ko → Q (.returned none) (ov σ ad 21 w')) (kn : 300 ≤ ops → ∀ w', PF w w' → BS ad op sg w' (tk_s T L p) → Q (.returned none) (ov σ ad 21 w')) : Go z l mt_P_takeOperator (d + 21) 0 [.ref (ad 16)] [] (ov σ ad 21 w) Q := by
  have h1000 := gs_1000 hG
  have hG0 := hG
  obtain ⟨g1, g2, g3, g4, g5, g6, g7, g8, g9, g10, g11, g12, g13⟩ := hG
  have e1 : w.I 16 31 + 1 = nI (ops + 1) := by rw [g6]; exact nI_1 ops
  have e3 : w.I 16 31 + 1 ≤ 300 ↔ ops + 1 ≤ 300 := by rw [e1]; exact nI_leI (b := 300) (by omega) (by omega)
  refine cs_P_takeOperator (d := d + 12) hp.1 hp.2.1 g1.1 (fun h => ?_) (fun _ h => absurd g5 h) (fun h _ => kn ?_ _ ((pf_I16 _ _ _).trans (pf_at _ _)) ?_)
  · have h' := e3.mp h
    have hG2 : GS ad op sg T L (w.setI 16 31 (w.I 16 31 + 1)) p (ops + 1) n c ko := ⟨g1, g2, g3, g4, g5, e1, g7, g8, g9, g10, g11, g12, h'⟩
    exact cg_next (d := d) hp hG2 (fun w' hf hG' _ => gj_nextV (cs_P_takeOperator_34 (d := d + 12) hp.1 (ky (by omega) w' ((pf_I16 _ _ _).trans (PF.nf hf)) hf.2.2.2.2.1 hf.2.2.2.1 hG')))
  · have h' : ¬ ops + 1 ≤ 300 := fun q => h (e3.mpr q)
    omega
  · exact bs_at (w := w.setI 16 31 (w.I 16 31 + 1)) (n := n) g1 g7 (by omega) g4.2.1 (by omega)
/-- NOT or - in front -/
theorem cg_front_loop {s k : Nat} (hp : PP z σ ad op sg aO aS mO mS L) (hs : s < 33) (hk : k ≤ 30) : ∀ (f t : Nat) (w : Wd) (p : Nat), k + t + f = 30 → GS ad op sg T L w p ops n c ko →
    (∀ j q, sp_front T L s f p = .ok (j, q) → ∀ w', NF w w' → GS ad op sg T L w' q ops n c ko → Q (.returned (some (.int (nI (t + j))))) (ov σ ad 21 w')) →
    (∀ e, sp_front T L s f p = .error e → ∀ w' v, PF w w' → BS ad op sg w' e → v ≤ 30 → Q (.returned (some (.int (nI v)))) (ov σ ad 21 w')) →
    Go z l mt_P_takeInFront (d + 21) 2 [.ref (ad 16), .ref (sg s), .int (nI k), .int (nI t)] [] (ov σ ad 21 w) Q := by
  intro f
  induction f with
  | zero =>
    intro t w p ht hG ky kn
    have a30 : 30 ≤ nI k + nI t := by
      rw [pk_add]
      exact nI_le (a := 30) (by omega) (by omega)
    refine cs_P_takeInFront_2 (d := d + 12) hp.1 hp.2.1 hG.1.1 hG.2.2.2.1.2.2.2.1 (fun h _ => ky 0 p (if_neg (fun q => h (by rw [q]))) w (NF.refl w) hG) (fun h h2 => absurd h2 h) (fun h h2 => absurd h2 h) (fun h _ h2 => absurd h h2) (fun _ _ _ h => absurd hG.2.2.2.2.1 h) (fun h _ _ _ => kn _ (if_pos (sg_inj hp.2.1 hG.g (by omega) h)) _ t (pf_at _ _) (gs_break hG) (by omega)) (fun _ h => absurd a30 h)
  | succ f ih =>
    intro t w p ht hG ky kn
    have a30 : ¬ 30 ≤ nI k + nI t := by
      rw [pk_add]
      exact nI_ge (b := 30) (by omega) (by omega)
    refine cs_P_takeInFront_2 (d := d + 12) hp.1 hp.2.1 hG.1.1 hG.2.2.2.1.2.2.2.1 (fun h _ => ky 0 p (if_neg (fun q => h (by rw [q]))) w (NF.refl w) hG) (fun h h2 => absurd h2 h) (fun h h2 => absurd h2 h) (fun h _ h2 => absurd h h2) (fun _ h => absurd h a30) (fun _ h => absurd h a30) (fun h _ => ?_)
    have hg : tk_g T L p = s := sg_inj hp.2.1 hG.g (by omega) h
    refine cg_next (d := d) hp hG (fun w1 hf hG1 _ => gj_nextV (cs_P_takeInFront_28 (d := d + 12) hp.1 hp.2.1 ?_))
    rw [nI_1]
    refine ih (t + 1) w1 _ (by omega) hG1 (fun j q hq w' hf' hG' => ?_) (fun e hq w' v hf' hB hv => ?_)
    · rw [show t + 1 + j = t + (j + 1) by omega]
      refine ky (j + 1) q ?_ w' (hf.trans hf') hG'
      rw [sp_front, if_pos hg, hq]
    · refine kn e ?_ w' v ((PF.nf hf).trans hf') hB hv
      rw [sp_front, if_pos hg, hq]
theorem cg_front {s k : Nat} (hp : PP z σ ad op sg aO aS mO mS L) (hs : s < 33) (hk : k ≤ 30) (hG : GS ad op sg T L w p ops n c ko)
    (ky : ∀ j q, sp_front T L s (30 - k) p = .ok (j, q) → ∀ w', NF w w' → GS ad op sg T L w' q ops n c ko → Q (.returned (some (.int (nI j)))) (ov σ ad 21 w'))
    (kn : ∀ e, sp_front T L s (30 - k) p = .error e → ∀ w' v, PF w w' → BS ad op sg w' e → v ≤ 30 → Q (.returned (some (.int (nI v)))) (ov σ ad 21 w')) :
    Go z l mt_P_takeInFront (d + 21) 0 [.ref (ad 16), .ref (sg s), .int (nI k), .retAddr 0] [] (ov σ ad 21 w) Q :=
  cs_P_takeInFront (d := d + 12) hp.1 hp.2.1 (cg_front_loop (d := d) (ops := ops) (n := n) (c := c) (ko := ko) hp hs hk (30 - k) 0 w p (by omega) hG (fun j q hq w' hf hG' => by rw [Nat.zero_add]; exact ky j q hq w' hf hG') kn)
theorem cb_front {s : Nat} {x : Int32} (hp : PP z σ ad op sg aO aS mO mS L) (hs : s < 33) (hB : BS ad op sg w e) (k : Q (.returned (some (.int 0))) (ov σ ad 21 w)) : Go z l mt_P_takeInFront (d + 9) 0 [.ref (ad 16), .ref (sg s), .int x, .retAddr 0] [] (ov σ ad 21 w) Q := by
  obtain ⟨b1, b2, b3, n, ko, b4, b5, b6⟩ := id hB
  have ne := sg_ne (i := 34) (j := s) hp.2.1 (by decide) (by omega) (by omega)
  exact cs_P_takeInFront (d := d) hp.1 hp.2.1 (cs_P_takeInFront_2 (d := d) hp.1 hp.2.1 b4.1 b1 (fun _ _ => k) (fun _ h => absurd h ne) (fun _ h => absurd h ne) (fun h => absurd h ne) (fun h => absurd h ne) (fun h => absurd h ne) (fun h => absurd h ne))
/-- what in front was taken lies before what comes -/
theorem front_le {s : Nat} (hs : s ≠ 33) : ∀ (f p j q : Nat), p ≤ L → sp_front T L s f p = .ok (j, q) → tk_s T L p + j ≤ tk_s T L q ∧ q ≤ L ∧ j ≤ f
  | 0, p, j, q, hp, h => by
    unfold sp_front at h
    split at h
    · cases h
    · cases h
      exact ⟨Nat.le_refl _, hp, Nat.le_refl _⟩
  | f + 1, p, j, q, hp, h => by
    unfold sp_front at h
    split at h
    · next hg =>
      have ht := tk_le (T := T) hp
      have h1 := ht.2.2.2.1 (by rw [hg]; exact hs)
      cases hr : sp_front T L s f (tk_e T L p) with
      | error e => rw [hr] at h; cases h
      | ok x =>
        obtain ⟨j', q'⟩ := x
        rw [hr] at h
        cases h
        have := front_le hs f (tk_e T L p) j' q ht.2.2.1 hr
        omega
    · cases h
      exact ⟨Nat.le_refl _, hp, Nat.zero_le _⟩
/-- a step more in a good state -/
theorem gs_add {o : Nat} {x : Int64} (hG : GS ad op sg T L w p ops n c ko) (ho : o < 43) (hn : n + 1 ≤ tk_s T L p) : GS ad op sg T L (((w.rowA 13 (va_up (w.eA 13) n (some (op o)))).rowJ 14 (va_up (w.eJ 14) n x)).setI 12 19 (nI (n + 1))) p ops (n + 1) c (va_up ko n o) := by
  obtain ⟨g1, g2, g3, g4, g5, g6, g7, g8, g9, g10, g11, g12, g13⟩ := hG
  exact ⟨pl_add g1 ho, g2, g3, g4, g5, g6, rfl, g8, hn, g10, g11, g12, g13⟩
theorem cg_addG {o : Nat} {x : Int64} (hp : PP z σ ad op sg aO aS mO mS L) (ho : o < 43) (hG : GS ad op sg T L w p ops n c ko) (hn : n + 1 ≤ tk_s T L p) (k : ∀ w', PF w w' → GS ad op sg T L w' p ops (n + 1) c (va_up ko n o) → w'.eJ 14 = va_up (w.eJ 14) n x → w'.eI 15 = w.eI 15 → Q (.returned (some (.int (nI n)))) (ov σ ad 21 w')) : Go z l mt_G_add (d + 9) 0 [.ref (ad 12), .ref (op o), .long x, .retAddr 0] [] (ov σ ad 21 w) Q := by
  have h1000 := gs_1000 hG
  exact cg_add hp.1 hp.2.1 (hp.2.2.1 o ho) ho hG.1 hG.2.2.2.2.2.2.1 (by omega) (k _ pf_add (gs_add hG ho hn) rfl rfl)
theorem cb_each {o : Nat} (hp : PP z σ ad op sg aO aS mO mS L) (ho : o < 43) (hB : BS ad op sg w e) {j : Nat} (hj : j ≤ 100) (k : ∀ w', PF w w' → BS ad op sg w' e → Q (.returned none) (ov σ ad 21 w')) : Go z l mt_P_addEach (d + 10) 0 [.ref (ad 16), .ref (op o), .int (nI j), .retAddr 0] [] (ov σ ad 21 w) Q := by
  have loop : ∀ (m i : Nat) (w1 : Wd), i + m = j → PF w w1 → BS ad op sg w1 e → Go z l mt_P_addEach (d + 10) 2 [.ref (ad 16), .ref (op o), .int (nI j), .int (nI i)] [] (ov σ ad 21 w1) Q := by
    intro m
    induction m with
    | zero =>
      intro i w1 hi hf hB1
      have q : nI j ≤ nI i := nI_le (by omega) (by omega)
      obtain ⟨b1, b2, b3, n, ko, b4, b5, b6⟩ := id hB1
      exact cs_P_addEach_2 (d := d + 1) hp.1 hp.2.1 b4.2.1 (fun _ => k w1 hf hB1) (fun h => absurd q h)
    | succ m ih =>
      intro i w1 hi hf hB1
      have q : ¬ nI j ≤ nI i := nI_ge (by omega) (by omega)
      obtain ⟨b1, b2, b3, n, ko, b4, b5, b6⟩ := id hB1
      refine cs_P_addEach_2 (d := d + 1) hp.1 hp.2.1 b4.2.1 (fun h => absurd h q) (fun _ => ?_)
      refine cb_add (d := d) hp.1 hp.2.1 (hp.2.2.1 o ho) ho hB1 (fun w2 v hf2 hB2 _ => gj_nextI (cs_P_addEach_16 (d := d + 1) hp.1 hp.2.1 ?_))
      rw [nI_1]
      exact ih (i + 1) w2 (by omega) (hf.trans hf2) hB2
  exact cs_P_addEach (d := d + 1) hp.1 hp.2.1 (loop j 0 w (Nat.zero_add _) (PF.refl w) hB)
theorem cg_each {o n0 : Nat} {m : Ex} (hp : PP z σ ad op sg aO aS mO mS L) (ho : o = 16 ∨ o = 33) {j : Nat} (hG : GS ad op sg T L w p ops n c ko) (hR : Rep m n0 n c ko (w.eJ 14) (w.eI 15)) (hn : n + j ≤ tk_s T L p) (k : ∀ w' ko', PF w w' → GS ad op sg T L w' p ops (n + j) c ko' → Rep (ex_it o j m) n0 (n + j) c ko' (w'.eJ 14) (w'.eI 15) → (∀ i, i < n → ko' i = ko i ∧ w'.eJ 14 i = w.eJ 14 i) → w'.eI 15 = w.eI 15 → Q (.returned none) (ov σ ad 21 w')) : Go z l mt_P_addEach (d + 10) 0 [.ref (ad 16), .ref (op o), .int (nI j), .retAddr 0] [] (ov σ ad 21 w) Q := by
  have h1000 := gs_1000 hG
  have ho2 : o < 43 := by omega
  have loop : ∀ (f i : Nat) (w1 : Wd) (ko1 : Nat → Nat) (m1 : Ex), i + f = j → ex_it o f m1 = ex_it o j m → PF w w1 → GS ad op sg T L w1 p ops (n + i) c ko1 → Rep m1 n0 (n + i) c ko1 (w1.eJ 14) (w1.eI 15) → (∀ i, i < n → ko1 i = ko i ∧ w1.eJ 14 i = w.eJ 14 i) → w1.eI 15 = w.eI 15 → Go z l mt_P_addEach (d + 10) 2 [.ref (ad 16), .ref (op o), .int (nI j), .int (nI i)] [] (ov σ ad 21 w1) Q := by
    intro f
    induction f with
    | zero =>
      intro i w1 ko1 m1 hi hm hf hG1 hR1 hk1 hk2
      have q : nI j ≤ nI i := nI_le (by omega) (by omega)
      have hij : i = j := by omega
      subst hij
      have hm' : m1 = ex_it o i m := hm
      subst hm'
      exact cs_P_addEach_2 (d := d + 1) hp.1 hp.2.1 hG1.1.2.1 (fun _ => k w1 ko1 hf hG1 hR1 hk1 hk2) (fun h => absurd q h)
    | succ f ih =>
      intro i w1 ko1 m1 hi hm hf hG1 hR1 hk1 hk2
      have q : ¬ nI j ≤ nI i := nI_ge (by omega) (by omega)
      refine cs_P_addEach_2 (d := d + 1) hp.1 hp.2.1 hG1.1.2.1 (fun h => absurd h q) (fun _ => ?_)
      refine cg_addG (d := d) hp ho2 hG1 (by omega) (fun w2 hf2 hG2 r1 r2 _ => gj_nextI (cs_P_addEach_16 (d := d + 1) hp.1 hp.2.1 ?_))
      rw [nI_1]
      refine ih (i + 1) w2 _ (ex_1 o m1) (by omega) hm (hf.trans hf2) hG2 ?_ (fun x hx => ?_) (r2.trans hk2)
      · refine rp_1 (by omega) (hR1.mono (fun x a1 a2 => ⟨hp_up_ne _ _ (by omega), by rw [r1]; exact hp_up_ne _ _ (by omega)⟩) (fun x _ => by rw [r2]) (Nat.le_refl _)) (hp_up_same _ _ _) (by rw [r1]; exact hp_up_same _ _ _)
      · rw [r1]
        exact ⟨(hp_up_ne _ _ (by omega)).trans (hk1 x hx).1, (hp_up_ne _ _ (by omega)).trans (hk1 x hx).2⟩
  exact cs_P_addEach (d := d + 1) hp.1 hp.2.1 (loop j 0 w ko m (Nat.zero_add _) rfl (PF.refl w) hG hR (fun _ _ => ⟨rfl, rfl⟩) rfl)
end Psteps
