/-! ===== parts one after the other in the checking; the step that closes them ===== -/
def RepL (ms : List Ex) (a b : Nat) (ko0 : Nat → Nat) (ar0 : Nat → Int64) : Prop := a + ms.length ≤ b ∧
  ∀ (z : State) (l : Launch) (d : Nat) (σ : Hp) (ad : Nat → Nat) (Q : Outcome → Hp → Prop) (op sg : Nat → Nat) (aO aS mO mS : Nat) (ko : Nat → Nat) (w : Wd) (len : Nat) (kn : Nat → Int32) (K : List Int32),
    CP z σ ad op sg aO aS mO mS ko w len kn → b ≤ len → (∀ j, a ≤ j → j < b → ko j = ko0 j ∧ w.eJ 10 j = ar0 j) → CS w K 0 → K.length ≤ a →
    ((ckl ms kn).1 = 0 → ∀ w', CF w w' → CS w' (K ++ (ckl ms kn).2) 0 → HK z l d σ ad Q w' b) →
    (¬ (ckl ms kn).1 = 0 → ∀ w', CF w w' → Q (.returned (some (.int (ckl ms kn).1))) (ov σ ad 21 w')) →
    HK z l d σ ad Q w a
theorem RepK.mono {m : Ex} {a b : Nat} {ko0 ko1 : Nat → Nat} {ar0 ar1 : Nat → Int64} (h : RepK m a b ko0 ar0) (h1 : ∀ j, a ≤ j → j < b → ko1 j = ko0 j ∧ ar1 j = ar0 j) : RepK m a b ko1 ar1 :=
  fun z l d σ ad Q op sg aO aS mO mS ko w len kn K hp hb hj => h z l d σ ad Q op sg aO aS mO mS ko w len kn K hp hb (fun j a1 a2 => ⟨(hj j a1 a2).1.trans (h1 j a1 a2).1, (hj j a1 a2).2.trans (h1 j a1 a2).2⟩)
theorem rl_nil {a : Nat} {ko0 : Nat → Nat} {ar0 : Nat → Int64} : RepL [] a a ko0 ar0 :=
  ⟨Nat.le_refl _, fun z l d σ ad Q op sg aO aS mO mS ko w len kn K hp hb hj hS hK ok er => ok rfl w (CF.refl w) (by rw [show (ckl [] kn).2 = [] from rfl, List.append_nil]; exact hS)⟩
theorem ckl_add (ms : List Ex) (m : Ex) (kn : Nat → Int32) : ckl (ms ++ [m]) kn = if ¬ (ckl ms kn).1 = 0 then ((ckl ms kn).1, []) else if ¬ (m.1 kn).1 = 0 then ((m.1 kn).1, []) else (0, (ckl ms kn).2 ++ [(m.1 kn).2]) := by
  induction ms with
  | nil =>
    by_cases h : (m.1 kn).1 = 0 <;> simp [ckl, h]
  | cons x xs ih =>
    show (if ¬ (x.1 kn).1 = 0 then ((x.1 kn).1, []) else if ¬ (ckl (xs ++ [m]) kn).1 = 0 then ((ckl (xs ++ [m]) kn).1, []) else (0, (x.1 kn).2 :: (ckl (xs ++ [m]) kn).2)) = _
    rw [ih]
    by_cases h1 : (x.1 kn).1 = 0
    · by_cases h2 : (ckl xs kn).1 = 0
      · by_cases h3 : (m.1 kn).1 = 0 <;> simp [ckl, h1, h2, h3]
      · simp [ckl, h1, h2]
    · simp [ckl, h1]
theorem rl_add {ms : List Ex} {m : Ex} {a b c : Nat} {ko0 : Nat → Nat} {ar0 : Nat → Int64} (hL : RepL ms a b ko0 ar0) (hm : RepK m b c ko0 ar0) (hbc : b < c) : RepL (ms ++ [m]) a c ko0 ar0 := by
  obtain ⟨hab, hL⟩ := hL
  refine ⟨by rw [List.length_append]; show a + (ms.length + 1) ≤ c; omega, ?_⟩
  intro z l d σ ad Q op sg aO aS mO mS ko w len kn K hp hb hj hS hK ok er
  rw [ckl_add] at ok er
  refine hL z l d σ ad Q op sg aO aS mO mS ko w len kn K hp (by omega) (fun j a1 a2 => hj j a1 (by omega)) hS hK (fun e1 w1 f1 hS1 => ?_) (fun e1 w1 f1 => ?_)
  · rw [if_neg (fun q => q e1)] at ok er
    have el : (ckl ms kn).2.length = ms.length := by rw [(ckl_ok e1).2, List.length_map]
    refine hm z l d σ ad Q op sg aO aS mO mS ko w1 len kn _ (hp.cf f1) (by omega) (fun j a1 a2 => ?_) hS1 (by rw [List.length_append, el]; omega) (fun e2 w2 f2 hS2 => ?_) (fun e2 w2 f2 => ?_)
    · rw [f1.2.2.2.2.1]; exact hj j (by omega) (by omega)
    · rw [if_neg (fun q => q e2)] at ok
      exact ok rfl w2 (f1.trans f2) (by rw [← List.append_assoc]; exact hS2)
    · rw [if_pos e2] at er
      exact er e2 w2 (f1.trans f2)
  · rw [if_pos e1] at er
    exact er e1 w1 f1
theorem hk_pass {z : State} {l : Launch} {d : Nat} {σ : Hp} {ad : Nat → Nat} {w : Wd} {Q : Outcome → Hp → Prop} {op sg : Nat → Nat} {aO aS mO mS : Nat} {ko : Nat → Nat} {len o : Nat} {kn : Nat → Int32} {b : Nat} {K : List Int32} (hp : CP z σ ad op sg aO aS mO mS ko w len kn) (hb : b < len) (ho : ko b = o) (h6 : 6 ≤ o) (h13 : o ≤ 13) (hS : CS w K 0) (k : HK z l d σ ad Q w (b + 1)) : HK z l d σ ad Q w b := by
  obtain ⟨hc, hs, hl, hro, hlen, hle, -, -⟩ := hp
  have h : o = 6 ∨ o = 7 ∨ o = 8 ∨ o = 9 ∨ o = 10 ∨ o = 11 ∨ o = 12 ∨ o = 13 := by omega
  rcases h with h | h | h | h | h | h | h | h <;> subst h
  · exact hk_push hc hs hl hro hlen hle hb hS.1 ho (by decide) rfl (fun Q' k0 => cs_C_pushOf_o6 (d := d + 10) hc hs (k0 _ k))
  · exact hk_push hc hs hl hro hlen hle hb hS.1 ho (by decide) rfl (fun Q' k0 => cs_C_pushOf_o7 (d := d + 10) hc hs (k0 _ k))
  · exact hk_push hc hs hl hro hlen hle hb hS.1 ho (by decide) rfl (fun Q' k0 => cs_C_pushOf_o8 (d := d + 10) hc hs (k0 _ k))
  · exact hk_push hc hs hl hro hlen hle hb hS.1 ho (by decide) rfl (fun Q' k0 => cs_C_pushOf_o9 (d := d + 10) hc hs (k0 _ k))
  · exact hk_push hc hs hl hro hlen hle hb hS.1 ho (by decide) rfl (fun Q' k0 => cs_C_pushOf_o10 (d := d + 10) hc hs (k0 _ k))
  · exact hk_push hc hs hl hro hlen hle hb hS.1 ho (by decide) rfl (fun Q' k0 => cs_C_pushOf_o11 (d := d + 10) hc hs (k0 _ k))
  · exact hk_push hc hs hl hro hlen hle hb hS.1 ho (by decide) rfl (fun Q' k0 => cs_C_pushOf_o12 (d := d + 10) hc hs (k0 _ k))
  · exact hk_push hc hs hl hro hlen hle hb hS.1 ho (by decide) rfl (fun Q' k0 => cs_C_pushOf_o13 (d := d + 10) hc hs (k0 _ k))
theorem rl_pass {ms : List Ex} {a b o : Nat} {ko0 : Nat → Nat} {ar0 : Nat → Int64} (hL : RepL ms a b ko0 ar0) (h1 : ko0 b = o) (h6 : 6 ≤ o) (h13 : o ≤ 13) : RepL ms a (b + 1) ko0 ar0 := by
  obtain ⟨hab, hL⟩ := hL
  refine ⟨by omega, ?_⟩
  intro z l d σ ad Q op sg aO aS mO mS ko w len kn K hp hb hj hS hK ok er
  refine hL z l d σ ad Q op sg aO aS mO mS ko w len kn K hp (by omega) (fun j a1 a2 => hj j a1 (by omega)) hS hK (fun e1 w1 f1 hS1 => ?_) er
  exact hk_pass (hp.cf f1) (by omega) ((hj b (by omega) (by omega)).1.trans h1) h6 h13 hS1 (ok e1 w1 f1 hS1)
/-- the same error; without one the same kind -/
def KE (f g : (Nat → Int32) → Int32 × Int32) : Prop := ∀ kn, (f kn).1 = (g kn).1 ∧ ((f kn).1 = 0 → (f kn).2 = (g kn).2)
theorem KE.refl (f : (Nat → Int32) → Int32 × Int32) : KE f f := fun _ => ⟨rfl, fun _ => rfl⟩
theorem rk_close {o : Nat} {m : Ex} {ms : List Ex} {a b : Nat} {ko0 : Nat → Nat} {ar0 : Nat → Int64} (hL : RepL ms a b ko0 ar0) (ho : o < 43) (hcl : ¬ op_closing.getD o 0 = 0) (h1 : ko0 b = o) (h2 : ar0 b = lN ms.length) (hm : KE m.1 (ckn o ms)) : RepK m a (b + 1) ko0 ar0 := by
  intro z l d σ ad Q op sg aO aS mO mS ko w len kn K hp hb hj hS hK ok er
  obtain ⟨hab, hL⟩ := hL
  obtain ⟨m1, m2⟩ := hm kn
  refine hL z l d σ ad Q op sg aO aS mO mS ko w len kn K hp (by omega) (fun j a1 a2 => hj j a1 (by omega)) hS hK (fun e1 w1 f1 hS1 => ?_) (fun e1 w1 f1 => ?_)
  · obtain ⟨q1, q2⟩ := hj b (by omega) (by omega)
    have hp1 := hp.cf f1
    have hp1' := hp1
    obtain ⟨hc, hs, hl, hro, hlen, hle, htag, hkn⟩ := hp1
    have ek : ckn o ms kn = sp_kc o (ckl ms kn).2 := if_neg (fun q => q e1)
    have el : (ckl ms kn).2.length = ms.length := by rw [(ckl_ok e1).2, List.length_map]
    have harg : w1.eJ 10 b = lN ms.length := by rw [f1.2.2.2.2.1]; exact q2.trans h2
    refine hk_close hc hs hl hro hlen hle (by omega) hS1.1 (q1.trans h1) hcl harg (fun Q' k0 => ?_)
    rw [lN_i]
    have hsz : w1.I 18 33 = nI (K.length + ms.length) := by rw [hS1.2.1, List.length_append, el]
    refine cc_close (d := d + 8) (base := K.length) (K := (ckl ms kn).2) hc hs hl (htag o ho) ho (by omega) (by omega) el hS1.1 hsz (fun j hj => ?_) (fun ht => ?_) (fun ht e s hkl => ?_)
    · rw [hS1.2.2 (K.length + j) (by rw [List.length_append, el]; omega)]
      simp [List.getD, List.getElem?_append_right]
    · have es : ckn o ms kn = (2, 0) := by rw [ek, sp_kc, el, ht]; rfl
      rw [es] at m1
      rw [m1] at er
      exact k0 _ (hk_err (w := w1.setI 18 34 2) hc hs (fun q hq => hl q hq) hro (show ¬ (2 : Int32) = 0 by decide) (er (by decide) _ (f1.trans (cf_34 _ _))))
    · have es : ckn o ms kn = (e, if op_result.getD o 0 = 4 then s else op_result.getD o 0) := by rw [ek, sp_kc, el, ht, if_pos rfl, hkl]
      rw [es] at m1 m2
      refine k0 _ ?_
      have f2 : CF w1 ((((w1.setI 18 34 e).setI 18 33 (nI K.length)).rowI 19 (va_up (w1.eI 19) K.length (if op_result.getD o 0 = 4 then s else op_result.getD o 0))).setI 18 33 (nI (K.length + 1))) := (cf_34 _ _).trans ((cf_33 _ _).trans ((cf_19 _ _).trans (cf_33 _ _)))
      by_cases h0 : e = 0
      · have m0 : (m.1 kn).1 = 0 := m1.trans h0
        refine ok m0 _ (f1.trans f2) ⟨h0, by rw [List.length_append]; rfl, fun j hj => ?_⟩
        rw [List.length_append] at hj
        rw [m2 m0]
        show va_up (w1.eI 19) K.length _ j = _
        by_cases hk : j = K.length
        · rw [hk, va_up_self]; simp [List.getD]
        · have hj' : j < K.length := by have : j < K.length + 1 := hj; omega
          rw [va_up_ne _ _ hk, hS1.2.2 j (by rw [List.length_append]; omega)]
          simp [List.getD, List.getElem?_append, hj']
      · have hp2 := hp1'.cf f2
        have := er (by rw [m1]; exact h0) _ (f1.trans f2)
        rw [m1] at this
        exact hk_err hp2.1 hp2.2.1 hp2.2.2.1 hp2.2.2.2.1 h0 this
  · have es : ckn o ms kn = ((ckl ms kn).1, 0) := if_pos e1
    rw [es] at m1
    have := er (by rw [m1]; exact e1) w1 f1
    rw [m1] at this
    exact this
theorem ke_1 (o : Nat) (m : Ex) : KE (ck1 o m) (ckn o [m]) := by
  intro kn
  by_cases h1 : (m.1 kn).1 = 0
  · have e : ckl [m] kn = (0, [(m.1 kn).2]) := (if_neg (fun q => q h1)).trans (if_neg (fun q => q rfl))
    have a : ck1 o m kn = sp_kc o [(m.1 kn).2] := if_neg (fun q => q h1)
    have b : ckn o [m] kn = sp_kc o [(m.1 kn).2] := by rw [ckn, e]; exact if_neg (fun q => q rfl)
    rw [a, b]; exact ⟨rfl, fun _ => rfl⟩
  · have e : ckl [m] kn = ((m.1 kn).1, []) := if_pos h1
    have a : ck1 o m kn = m.1 kn := if_pos h1
    have b : ckn o [m] kn = ((m.1 kn).1, 0) := by rw [ckn, e]; exact if_pos h1
    rw [a, b]; exact ⟨rfl, fun q => absurd q h1⟩
theorem ke_2 (o : Nat) (m1 m2 : Ex) : KE (ck2 o m1 m2) (ckn o [m1, m2]) := by
  intro kn
  have e := ckl_add [m1] m2 kn
  by_cases h1 : (m1.1 kn).1 = 0
  · have e1 : ckl [m1] kn = (0, [(m1.1 kn).2]) := (if_neg (fun q => q h1)).trans (if_neg (fun q => q rfl))
    rw [e1, if_neg (fun q => q rfl)] at e
    by_cases h2 : (m2.1 kn).1 = 0
    · rw [if_neg (fun q => q h2)] at e
      have a : ck2 o m1 m2 kn = sp_kc o [(m1.1 kn).2, (m2.1 kn).2] := (if_neg (fun q => q h1)).trans (if_neg (fun q => q h2))
      have b : ckn o [m1, m2] kn = sp_kc o [(m1.1 kn).2, (m2.1 kn).2] := by rw [ckn, show ckl [m1, m2] kn = _ from e]; exact if_neg (fun q => q rfl)
      rw [a, b]; exact ⟨rfl, fun _ => rfl⟩
    · rw [if_pos h2] at e
      have a : ck2 o m1 m2 kn = m2.1 kn := (if_neg (fun q => q h1)).trans (if_pos h2)
      have b : ckn o [m1, m2] kn = ((m2.1 kn).1, 0) := by rw [ckn, show ckl [m1, m2] kn = _ from e]; exact if_pos h2
      rw [a, b]; exact ⟨rfl, fun q => absurd q h2⟩
  · have e1 : ckl [m1] kn = ((m1.1 kn).1, []) := if_pos h1
    rw [e1, if_pos h1] at e
    have a : ck2 o m1 m2 kn = m1.1 kn := if_pos h1
    have b : ckn o [m1, m2] kn = ((m1.1 kn).1, 0) := by rw [ckn, show ckl [m1, m2] kn = _ from e]; exact if_pos h1
    rw [a, b]; exact ⟨rfl, fun q => absurd q h1⟩
theorem ke_3 (o : Nat) (m1 m2 m3 : Ex) : KE (ck3 o m1 m2 m3) (ckn o [m1, m2, m3]) := by
  intro kn
  have e := ckl_add [m1, m2] m3 kn
  have e2 := ckl_add [m1] m2 kn
  by_cases h1 : (m1.1 kn).1 = 0
  · have e1 : ckl [m1] kn = (0, [(m1.1 kn).2]) := (if_neg (fun q => q h1)).trans (if_neg (fun q => q rfl))
    rw [e1, if_neg (fun q => q rfl)] at e2
    by_cases h2 : (m2.1 kn).1 = 0
    · rw [if_neg (fun q => q h2)] at e2
      rw [show ckl [m1, m2] kn = _ from e2, if_neg (fun q => q rfl)] at e
      by_cases h3 : (m3.1 kn).1 = 0
      · rw [if_neg (fun q => q h3)] at e
        have a : ck3 o m1 m2 m3 kn = sp_kc o [(m1.1 kn).2, (m2.1 kn).2, (m3.1 kn).2] := (if_neg (fun q => q h1)).trans ((if_neg (fun q => q h2)).trans (if_neg (fun q => q h3)))
        have b : ckn o [m1, m2, m3] kn = sp_kc o [(m1.1 kn).2, (m2.1 kn).2, (m3.1 kn).2] := by rw [ckn, show ckl [m1, m2, m3] kn = _ from e]; exact if_neg (fun q => q rfl)
        rw [a, b]; exact ⟨rfl, fun _ => rfl⟩
      · rw [if_pos h3] at e
        have a : ck3 o m1 m2 m3 kn = m3.1 kn := (if_neg (fun q => q h1)).trans ((if_neg (fun q => q h2)).trans (if_pos h3))
        have b : ckn o [m1, m2, m3] kn = ((m3.1 kn).1, 0) := by rw [ckn, show ckl [m1, m2, m3] kn = _ from e]; exact if_pos h3
        rw [a, b]; exact ⟨rfl, fun q => absurd q h3⟩
    · rw [if_pos h2] at e2
      rw [show ckl [m1, m2] kn = _ from e2, if_pos h2] at e
      have a : ck3 o m1 m2 m3 kn = m2.1 kn := (if_neg (fun q => q h1)).trans (if_pos h2)
      have b : ckn o [m1, m2, m3] kn = ((m2.1 kn).1, 0) := by rw [ckn, show ckl [m1, m2, m3] kn = _ from e]; exact if_pos h2
      rw [a, b]; exact ⟨rfl, fun q => absurd q h2⟩
  · have e1 : ckl [m1] kn = ((m1.1 kn).1, []) := if_pos h1
    rw [e1, if_pos h1] at e2
    rw [show ckl [m1, m2] kn = _ from e2, if_pos h1] at e
    have a : ck3 o m1 m2 m3 kn = m1.1 kn := if_pos h1
    have b : ckn o [m1, m2, m3] kn = ((m1.1 kn).1, 0) := by rw [ckn, show ckl [m1, m2, m3] kn = _ from e]; exact if_pos h1
    rw [a, b]; exact ⟨rfl, fun q => absurd q h1⟩
