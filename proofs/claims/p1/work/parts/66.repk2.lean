/-! ===== a stretch of steps stands for m in the checking ===== -/
/-- what the checker reads: the cells, the constants, the program, the registers' kinds -/
def CP (z : State) (σ : Hp) (ad op sg : Nat → Nat) (aO aS mO mS : Nat) (ko : Nat → Nat) (w : Wd) (len : Nat) (kn : Nat → Int32) : Prop := CW z σ ad ∧ gj_St z op sg aO aS mO mS ∧ CLk w ad ∧ RO w op ko ∧ w.I 8 19 = nI len ∧ len ≤ 1000 ∧ (∀ i, i < 43 → σ.tag (op i) = 20) ∧ ∀ r, r < 8 → w.eI 2 r = kn r
theorem CP.cf {z : State} {σ : Hp} {ad op sg : Nat → Nat} {aO aS mO mS : Nat} {ko : Nat → Nat} {w w' : Wd} {len : Nat} {kn : Nat → Int32} (h : CP z σ ad op sg aO aS mO mS ko w len kn) (hf : CF w w') : CP z σ ad op sg aO aS mO mS ko w' len kn :=
  ⟨h.1, h.2.1, fun q hq => by rw [hf.2.2.1]; exact h.2.2.1 q hq, fun j hj => by rw [hf.2.2.2.2.2]; exact h.2.2.2.1 j hj, (hf.1 8 19 (by decide)).trans h.2.2.2.2.1, h.2.2.2.2.2.1, h.2.2.2.2.2.2.1, fun r hr => by rw [hf.2.2.2.1 2 (by decide)]; exact h.2.2.2.2.2.2.2 r hr⟩
def RepK (m : Ex) (a b : Nat) (ko0 : Nat → Nat) (ar0 : Nat → Int64) : Prop :=
  ∀ (z : State) (l : Launch) (d : Nat) (σ : Hp) (ad : Nat → Nat) (Q : Outcome → Hp → Prop) (op sg : Nat → Nat) (aO aS mO mS : Nat) (ko : Nat → Nat) (w : Wd) (len : Nat) (kn : Nat → Int32) (K : List Int32),
    CP z σ ad op sg aO aS mO mS ko w len kn → b ≤ len → (∀ j, a ≤ j → j < b → ko j = ko0 j ∧ w.eJ 10 j = ar0 j) → CS w K 0 → K.length ≤ a →
    ((m.1 kn).1 = 0 → ∀ w', CF w w' → CS w' (K ++ [(m.1 kn).2]) 0 → HK z l d σ ad Q w' b) →
    (¬ (m.1 kn).1 = 0 → ∀ w', CF w w' → Q (.returned (some (.int (m.1 kn).1))) (ov σ ad 21 w')) →
    HK z l d σ ad Q w a
theorem rk_int {n : Int64} {a : Nat} {ko0 : Nat → Nat} {ar0 : Nat → Int64} (h1 : ko0 a = 1) : RepK (ex_int n) a (a + 1) ko0 ar0 := by
  intro z l d σ ad Q op sg aO aS mO mS ko w len kn K hp hb hj hS hK ok er
  obtain ⟨q1, q2⟩ := hj a (Nat.le_refl _) (Nat.lt_succ_self _)
  obtain ⟨hc, hs, hl, hro, hlen, hle, -, -⟩ := hp
  have nb : ¬ (1000 : Int32) ≤ w.I 18 33 := by rw [hS.2.1]; exact nI_ge (b := 1000) (by omega) (by omega)
  have en : (w.I 18 33).toNatClampNeg = K.length := by rw [hS.2.1]; exact nI_clamp (by omega)
  refine hk_push hc hs hl hro hlen hle (by omega) hS.1 (q1.trans h1) (by decide) q2 (fun Q' k0 => ?_)
  refine cs_C_pushOf_o1 (d := d + 10) hc hs hl (fun h => absurd h nb) (fun _ => by rw [hS.2.1]; exact vp_in_nI (by omega) (by omega)) (fun _ => ?_)
  have := hS.push 0
  rw [en, hS.2.1, nI_1]
  exact k0 _ (ok rfl _ ((cf_19 w _).trans (cf_33 _ _)) this)
theorem rk_bool {n : Int64} {a : Nat} {ko0 : Nat → Nat} {ar0 : Nat → Int64} (h1 : ko0 a = 3) : RepK (ex_bool n) a (a + 1) ko0 ar0 := by
  intro z l d σ ad Q op sg aO aS mO mS ko w len kn K hp hb hj hS hK ok er
  obtain ⟨q1, q2⟩ := hj a (Nat.le_refl _) (Nat.lt_succ_self _)
  obtain ⟨hc, hs, hl, hro, hlen, hle, -, -⟩ := hp
  have nb : ¬ (1000 : Int32) ≤ w.I 18 33 := by rw [hS.2.1]; exact nI_ge (b := 1000) (by omega) (by omega)
  have en : (w.I 18 33).toNatClampNeg = K.length := by rw [hS.2.1]; exact nI_clamp (by omega)
  refine hk_push hc hs hl hro hlen hle (by omega) hS.1 (q1.trans h1) (by decide) q2 (fun Q' k0 => ?_)
  refine cs_C_pushOf_o3 (d := d + 10) hc hs hl (fun h => absurd h nb) (fun _ => by rw [hS.2.1]; exact vp_in_nI (by omega) (by omega)) (fun _ => ?_)
  have := hS.push 2
  rw [en, hS.2.1, nI_1]
  exact k0 _ (ok rfl _ ((cf_19 w _).trans (cf_33 _ _)) this)
theorem rk_null {a : Nat} {ko0 : Nat → Nat} {ar0 : Nat → Int64} (h1 : ko0 a = 4) : RepK ex_null a (a + 1) ko0 ar0 := by
  intro z l d σ ad Q op sg aO aS mO mS ko w len kn K hp hb hj hS hK ok er
  obtain ⟨q1, q2⟩ := hj a (Nat.le_refl _) (Nat.lt_succ_self _)
  obtain ⟨hc, hs, hl, hro, hlen, hle, -, -⟩ := hp
  have nb : ¬ (1000 : Int32) ≤ w.I 18 33 := by rw [hS.2.1]; exact nI_ge (b := 1000) (by omega) (by omega)
  have en : (w.I 18 33).toNatClampNeg = K.length := by rw [hS.2.1]; exact nI_clamp (by omega)
  refine hk_push hc hs hl hro hlen hle (by omega) hS.1 (q1.trans h1) (by decide) q2 (fun Q' k0 => ?_)
  refine cs_C_pushOf_o4 (d := d + 10) hc hs hl (fun h => absurd h nb) (fun _ => by rw [hS.2.1]; exact vp_in_nI (by omega) (by omega)) (fun _ => ?_)
  have := hS.push 3
  rw [en, hS.2.1, nI_1]
  exact k0 _ (ok rfl _ ((cf_19 w _).trans (cf_33 _ _)) this)
theorem rk_text {C : List Int32} {a : Nat} {ko0 : Nat → Nat} {ar0 : Nat → Int64} (h1 : ko0 a = 2) : RepK (ex_text C) a (a + 1) ko0 ar0 := by
  intro z l d σ ad Q op sg aO aS mO mS ko w len kn K hp hb hj hS hK ok er
  obtain ⟨q1, q2⟩ := hj a (Nat.le_refl _) (Nat.lt_succ_self _)
  obtain ⟨hc, hs, hl, hro, hlen, hle, -, -⟩ := hp
  have nb : ¬ (1000 : Int32) ≤ w.I 18 33 := by rw [hS.2.1]; exact nI_ge (b := 1000) (by omega) (by omega)
  have en : (w.I 18 33).toNatClampNeg = K.length := by rw [hS.2.1]; exact nI_clamp (by omega)
  refine hk_push hc hs hl hro hlen hle (by omega) hS.1 (q1.trans h1) (by decide) q2 (fun Q' k0 => ?_)
  refine cs_C_pushOf_o2 (d := d + 10) hc hs hl (fun h => absurd h nb) (fun _ => by rw [hS.2.1]; exact vp_in_nI (by omega) (by omega)) (fun _ => ?_)
  have := hS.push 1
  rw [en, hS.2.1, nI_1]
  exact k0 _ (ok rfl _ ((cf_19 w _).trans (cf_33 _ _)) this)
theorem rk_reg {r a : Nat} (hr : r < 8) {ko0 : Nat → Nat} {ar0 : Nat → Int64} (h1 : ko0 a = 5) (h2 : ar0 a = lN r) : RepK (ex_reg r) a (a + 1) ko0 ar0 := by
  intro z l d σ ad Q op sg aO aS mO mS ko w len kn K hp hb hj hS hK ok er
  obtain ⟨q1, q2⟩ := hj a (Nat.le_refl _) (Nat.lt_succ_self _)
  obtain ⟨hc, hs, hl, hro, hlen, hle, -, hkn⟩ := hp
  have nb : ¬ (1000 : Int32) ≤ w.I 18 33 := by rw [hS.2.1]; exact nI_ge (b := 1000) (by omega) (by omega)
  have iv : vp_in (w.I 18 33) 1000 := by rw [hS.2.1]; exact vp_in_nI (by omega) (by omega)
  have en : (w.I 18 33).toNatClampNeg = K.length := by rw [hS.2.1]; exact nI_clamp (by omega)
  have n0 : ¬ nI r < 0 := nI_pos (by omega)
  have n8 : ¬ (8 : Int32) ≤ nI r := nI_ge (b := 8) hr (by omega)
  refine hk_push hc hs hl hro hlen hle (by omega) hS.1 (q1.trans h1) (by decide) (q2.trans h2) (fun Q' k0 => ?_)
  rw [lN_i]
  refine cs_C_pushOf_o5 (d := d + 10) hc hs hl (fun h => absurd h n0) (fun h => absurd h n0) (fun h => absurd h n0) (fun _ h => absurd h n8) (fun _ h => absurd h n8) (fun _ h => absurd h n8) (fun _ _ => vp_in_nI hr (by omega)) (fun _ _ h => absurd h nb) (fun _ _ _ => iv) (fun _ _ _ => ?_)
  have := hS.push (kn r)
  rw [en, hS.2.1, nI_1, nI_clamp (n := r) (by omega), hkn r hr]
  exact k0 _ (ok rfl _ ((cf_19 w _).trans (cf_33 _ _)) this)
