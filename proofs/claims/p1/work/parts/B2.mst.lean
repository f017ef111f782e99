/-! ===== the reference while it reads: its state, its bytes ===== -/
theorem ov_re {σ H : Hp} {am : Nat → Nat} {w : Wd} (hi : ov_inj am 7) (h : ∀ i, i < 7 → SameC (ov σ am 7 w) H (am i)) : H = ov H am 7 w := by
  have eI : H.I = fun f a => ovm am 7 a (fun k => w.I k f) (H.I f a) := by
    funext f a
    rcases ovx_cases am 7 a with ⟨i, hi9, rfl⟩ | ⟨-, hn⟩
    · rw [ovm_at hi hi9, ((h i hi9).2.2.1 f).1, ov_I hi hi9]
    · rw [ovm_none hn]
  have eJ : H.J = fun f a => ovm am 7 a (fun k => w.J k f) (H.J f a) := by
    funext f a
    rcases ovx_cases am 7 a with ⟨i, hi9, rfl⟩ | ⟨-, hn⟩
    · rw [ovm_at hi hi9, ((h i hi9).2.2.1 f).2.1, ov_J hi hi9]
    · rw [ovm_none hn]
  have eA : H.A = fun f a => ovm am 7 a (fun k => w.A k f) (H.A f a) := by
    funext f a
    rcases ovx_cases am 7 a with ⟨i, hi9, rfl⟩ | ⟨-, hn⟩
    · rw [ovm_at hi hi9, ((h i hi9).2.2.1 f).2.2, ov_A hi hi9]
    · rw [ovm_none hn]
  have e1 : H.eI = fun a => ovm am 7 a w.eI (H.eI a) := by
    funext a
    rcases ovx_cases am 7 a with ⟨i, hi9, rfl⟩ | ⟨-, hn⟩
    · rw [ovm_at hi hi9, (h i hi9).2.2.2.1, ov_eI hi hi9]
    · rw [ovm_none hn]
  have e2 : H.eJ = fun a => ovm am 7 a w.eJ (H.eJ a) := by
    funext a
    rcases ovx_cases am 7 a with ⟨i, hi9, rfl⟩ | ⟨-, hn⟩
    · rw [ovm_at hi hi9, (h i hi9).2.2.2.2.1, ov_eJ hi hi9]
    · rw [ovm_none hn]
  have e3 : H.eA = fun a => ovm am 7 a w.eA (H.eA a) := by
    funext a
    rcases ovx_cases am 7 a with ⟨i, hi9, rfl⟩ | ⟨-, hn⟩
    · rw [ovm_at hi hi9, (h i hi9).2.2.2.2.2, ov_eA hi hi9]
    · rw [ovm_none hn]
  have key : ((H.tag, H.len, H.I, H.J, H.A, H.eI, H.eJ, H.eA, H.nx, H.sl) : Hp) = (H.tag, H.len, (fun f a => ovm am 7 a (fun k => w.I k f) (H.I f a)), (fun f a => ovm am 7 a (fun k => w.J k f) (H.J f a)), (fun f a => ovm am 7 a (fun k => w.A k f) (H.A f a)), (fun a => ovm am 7 a w.eI (H.eI a)), (fun a => ovm am 7 a w.eJ (H.eJ a)), (fun a => ovm am 7 a w.eA (H.eA a)), H.nx, H.sl) := by
    rw [← eI, ← eJ, ← eA, ← e1, ← e2, ← e3]
  exact key
/-- beside the world all is as it was, but for ex -/
def Fm (am : Nat → Nat) (ex : Nat → Prop) (σ σ' : Hp) : Prop := σ.nx ≤ σ'.nx ∧ σ.sl ≤ σ'.sl ∧ ∀ a, a < σ.nx → mx am a → ¬ ex a → SameC σ σ' a
theorem Fm.rfl' (am : Nat → Nat) (ex : Nat → Prop) (σ : Hp) : Fm am ex σ σ := ⟨Nat.le_refl _, Nat.le_refl _, fun a _ _ _ => SameC.rfl' σ a⟩
theorem Fm.trans {am : Nat → Nat} {ex ex1 ex2 : Nat → Prop} {σ σ1 σ2 : Hp} (h : Fm am ex1 σ σ1) (g : Fm am ex2 σ1 σ2) (e1 : ∀ a, a < σ.nx → ex1 a → ex a) (e2 : ∀ a, a < σ.nx → ex2 a → ex a) : Fm am ex σ σ2 :=
  ⟨Nat.le_trans h.1 g.1, Nat.le_trans h.2.1 g.2.1, fun a ha hm hx => (h.2.2 a ha hm (fun q => hx (e1 a ha q))).trans (g.2.2 a (Nat.lt_of_lt_of_le ha h.1) hm (fun q => hx (e2 a ha q)))⟩
theorem Fm.tr {am : Nat → Nat} {σ σ1 σ2 : Hp} (h : Fm am (fun _ => False) σ σ1) (g : Fm am (fun _ => False) σ1 σ2) : Fm am (fun _ => False) σ σ2 := h.trans g (fun _ _ q => q) (fun _ _ q => q)
theorem SameC.ov {σ σ' : Hp} {am : Nat → Nat} {w w' : Wd} {a : Nat} (hm : mx am a) (h : SameC (ov σ am 7 w) σ' a) : SameC σ σ' a :=
  ⟨h.1, h.2.1, fun f => ⟨(h.2.2.1 f).1.trans (nn_I hm), (h.2.2.1 f).2.1.trans (nn_J hm), (h.2.2.1 f).2.2.trans (nn_A hm)⟩, h.2.2.2.1.trans (nn_eI hm), h.2.2.2.2.1.trans (nn_eJ hm), h.2.2.2.2.2.trans (nn_eA hm)⟩
/-- what the library leaves of the world -/
theorem mo_re {z : State} {σ H : Hp} {am : Nat → Nat} {w : Wd} {ex : Nat → Prop} (hc : CM z σ am) (hw : hp_wf (ov σ am 7 w)) (h : Fx ex (ov σ am 7 w) H) (hx : ∀ i, i < 7 → ¬ ex (am i)) : H = ov H am 7 w ∧ CM z H am ∧ Fm am ex σ H := by
  have lt : ∀ i, i < 7 → am i < σ.nx := fun i hi => by
    have h0 : (ov σ am 7 w).tag (am i) ≠ 0 := by
      show σ.tag (am i) ≠ 0
      rw [(hc.2 i hi).1]
      exact (show ∀ i, i < 7 → cm_tag i ≠ 0 by decide) i hi
    exact hw.lt h0
  refine ⟨ov_re hc.1 (fun i hi => h.2.2 _ (lt i hi) (hx i hi)), ⟨hc.1, fun i hi => ?_⟩, h.1, h.2.1, fun a ha hm hx9 => (h.2.2 a ha hx9).ov (w' := w) hm⟩
  have s := h.2.2 _ (lt i hi) (hx i hi)
  exact ⟨s.1.trans (hc.2 i hi).1, s.2.1.trans (hc.2 i hi).2.1, (hc.2 i hi).2.2⟩
/-! bytes -/
theorem isB_cases {x : Int32} (h : isB x) : (∃ j, j ≤ 127 ∧ x = nI j) ∨ ∃ j, 1 ≤ j ∧ j ≤ 128 ∧ x = -nI j := by
  obtain ⟨h1, h2⟩ := lg_i2b_range x
  unfold isB at h
  rw [← h] at h1 h2
  by_cases h0 : x < 0
  · refine Or.inr ⟨(-x.toInt).toNat, ?_, ?_, ?_⟩
    · rw [Int32.lt_iff_toInt_lt] at h0
      have : x.toInt < 0 := h0
      omega
    · omega
    · have h3 : x.toInt < 0 := by
        rw [Int32.lt_iff_toInt_lt] at h0
        exact h0
      have e1 : x.toInt = -(((-x.toInt).toNat : Nat) : Int) := by omega
      have e2 : x = Int32.ofInt x.toInt := (Int32.ofInt_toInt x).symm
      rw [e1, Int32.ofInt_neg] at e2
      exact e2
  · refine Or.inl ⟨x.toNatClampNeg, ?_, ?_⟩
    · have := gj_nn h0
      omega
    · exact (show x = nI x.toNatClampNeg by
        refine Int32.toInt_inj.mp ?_
        have := gj_nn h0
        rw [gj_nn (nI_pos (by omega)), nI_clamp (by omega)]
        exact this)
/-- what stands at a place, or -1 -/
def atv (T : Nat → Int32) (L i : Nat) : Int32 := if i < L then T i &&& 255 else -1
theorem atv_cases {T : Nat → Int32} {L i : Nat} (hT : ∀ i, isB (T i)) : (¬ i < L ∧ atv T L i = -1) ∨ (i < L ∧ ∃ j, j ≤ 127 ∧ T i = nI j ∧ atv T L i = nI j) ∨ (i < L ∧ ∃ j u, 1 ≤ j ∧ j ≤ 128 ∧ T i = -nI j ∧ 128 ≤ u ∧ u ≤ 255 ∧ atv T L i = nI u) := by
  by_cases h : i < L
  · unfold atv
    rw [if_pos h]
    rcases isB_cases (hT i) with ⟨j, hj, e⟩ | ⟨j, hj1, hj2, e⟩
    · refine Or.inr (Or.inl ⟨h, j, hj, e, ?_⟩)
      rw [e]
      exact (by decide +kernel : ∀ j, j < 128 → nI j &&& 255 = nI j) j (by omega)
    · refine Or.inr (Or.inr ⟨h, j, 256 - j, hj1, hj2, e, by omega, by omega, ?_⟩)
      rw [e]
      exact (by decide +kernel : ∀ j, j < 129 → 1 ≤ j → (-nI j) &&& 255 = nI (256 - j)) j (by omega) hj1
  · exact Or.inl ⟨h, if_neg h⟩
theorem atv_eq {T : Nat → Int32} {L i c : Nat} (hT : ∀ i, isB (T i)) (hc : c ≤ 127) : atv T L i = nI c ↔ i < L ∧ T i = nI c := by
  rcases atv_cases (L := L) (i := i) hT with ⟨h, e⟩ | ⟨h, j, hj, e1, e2⟩ | ⟨h, j, u, hj1, hj2, e1, hu1, hu2, e2⟩
  · rw [e]
    exact ⟨fun q => absurd q.symm ((by decide +kernel : ∀ c, c < 128 → ¬ nI c = -1) c (by omega)), fun q => absurd q.1 h⟩
  · rw [e1, e2]
    exact ⟨fun q => ⟨h, q⟩, fun q => q.2⟩
  · rw [e1, e2]
    refine ⟨fun q => ?_, fun q => ?_⟩
    · have := (nI_eq (by omega) (by omega)).mp q
      omega
    · have := (by decide +kernel : ∀ c, c < 128 → ¬ nI c < 0) c (by omega)
      rw [← q.2] at this
      exact absurd ((by decide +kernel : ∀ j, j < 129 → 1 ≤ j → -nI j < 0) j (by omega) hj1) this
/-- a property of small characters -/
theorem atv_p {T : Nat → Int32} {L i : Nat} (hT : ∀ i, isB (T i)) (P : Int32 → Prop) (h0 : ¬ P (-1)) (h1 : ∀ u, 128 ≤ u → u ≤ 255 → ¬ P (nI u)) (h2 : ∀ j, 1 ≤ j → j ≤ 128 → ¬ P (-nI j)) : P (atv T L i) ↔ i < L ∧ P (T i) := by
  rcases atv_cases (L := L) (i := i) hT with ⟨h, e⟩ | ⟨h, j, hj, e1, e2⟩ | ⟨h, j, u, hj1, hj2, e1, hu1, hu2, e2⟩
  · rw [e]
    exact ⟨fun q => absurd q h0, fun q => absurd q.1 h⟩
  · rw [e1, e2]
    exact ⟨fun q => ⟨h, q⟩, fun q => q.2⟩
  · rw [e1, e2]
    exact ⟨fun q => absurd q (h1 u hu1 hu2), fun q => absurd q.2 (h2 j hj1 hj2)⟩
theorem atv_let {T : Nat → Int32} {L i : Nat} (hT : ∀ i, isB (T i)) : sc_let (atv T L i) ↔ i < L ∧ sc_let (T i) := atv_p hT sc_let (by decide) (fun u h1 h2 => (by decide +kernel : ∀ u, u < 256 → 128 ≤ u → ¬ sc_let (nI u)) u (by omega) h1) (fun j h1 h2 => (by decide +kernel : ∀ j, j < 129 → 1 ≤ j → ¬ sc_let (-nI j)) j (by omega) h1)
theorem atv_dig {T : Nat → Int32} {L i : Nat} (hT : ∀ i, isB (T i)) : sc_dig (atv T L i) ↔ i < L ∧ sc_dig (T i) := atv_p hT sc_dig (by decide) (fun u h1 h2 => (by decide +kernel : ∀ u, u < 256 → 128 ≤ u → ¬ sc_dig (nI u)) u (by omega) h1) (fun j h1 h2 => (by decide +kernel : ∀ j, j < 129 → 1 ≤ j → ¬ sc_dig (-nI j)) j (by omega) h1)
theorem atv_chr {T : Nat → Int32} {L i : Nat} (hT : ∀ i, isB (T i)) : sc_chr (atv T L i) ↔ i < L ∧ sc_chr (T i) := atv_p hT sc_chr (by decide) (fun u h1 h2 => (by decide +kernel : ∀ u, u < 256 → 128 ≤ u → ¬ sc_chr (nI u)) u (by omega) h1) (fun j h1 h2 => (by decide +kernel : ∀ j, j < 129 → 1 ≤ j → ¬ sc_chr (-nI j)) j (by omega) h1)
theorem atv_neg {T : Nat → Int32} {L i : Nat} (hT : ∀ i, isB (T i)) : atv T L i < 0 ↔ L ≤ i := by
  rcases atv_cases (L := L) (i := i) hT with ⟨h, e⟩ | ⟨h, j, hj, e1, e2⟩ | ⟨h, j, u, hj1, hj2, e1, hu1, hu2, e2⟩
  · rw [e]
    exact ⟨fun _ => by omega, fun _ => by decide⟩
  · rw [e2]
    exact ⟨fun q => absurd q (nI_pos (by omega)), fun q => absurd h (by omega)⟩
  · rw [e2]
    exact ⟨fun q => absurd q (nI_pos (by omega)), fun q => absurd h (by omega)⟩
theorem atv_val {T : Nat → Int32} {L i : Nat} (hT : ∀ i, isB (T i)) (h : i < L) (h2 : sc_chr (T i)) : atv T L i = T i := by
  rcases atv_cases (L := L) (i := i) hT with ⟨h, e⟩ | ⟨h, j, hj, e1, e2⟩ | ⟨h, j, u, hj1, hj2, e1, hu1, hu2, e2⟩
  · exact absurd ‹i < L› h
  · rw [e1, e2]
  · rw [e1] at h2
    exact absurd h2 ((by decide +kernel : ∀ j, j < 129 → 1 ≤ j → ¬ sc_chr (-nI j)) j (by omega) hj1)
