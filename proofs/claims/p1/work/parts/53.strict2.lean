/-! ===== steps of two parts ===== -/
def ck1 (o : Nat) (m : Ex) (kn : Nat → Int32) : Int32 × Int32 := if ¬ (m.1 kn).1 = 0 then m.1 kn else sp_kc o [(m.1 kn).2]
def ck2 (o : Nat) (m1 m2 : Ex) (kn : Nat → Int32) : Int32 × Int32 := if ¬ (m1.1 kn).1 = 0 then m1.1 kn else if ¬ (m2.1 kn).1 = 0 then m2.1 kn else sp_kc o [(m1.1 kn).2, (m2.1 kn).2]
def sp_st (o : Nat) (a b c : Va) : Int32 × Va := if op_result.getD o 0 = 2 then (0, v_bool (sp_bool o a b)) else if op_result.getD o 0 = 1 then sp_text o a b c else (sp_fin (sp_arith o a.2.1 b.2.1), (0, (sp_arith o a.2.1 b.2.1).2, []))
def ev1 (o : Nat) (m : Ex) (R : Nat → Va) : Int32 × Va := if ¬ (m.2.1 R).1 = 0 then m.2.1 R else if (m.2.1 R).2.1 = 3 then (0, v_null) else sp_st o (m.2.1 R).2 v_null v_null
def ev2 (o : Nat) (m1 m2 : Ex) (R : Nat → Va) : Int32 × Va := if ¬ (m1.2.1 R).1 = 0 then m1.2.1 R else if ¬ (m2.2.1 R).1 = 0 then m2.2.1 R else if (m1.2.1 R).2.1 = 3 ∨ (m2.2.1 R).2.1 = 3 then (0, v_null) else sp_st o (m1.2.1 R).2 (m2.2.1 R).2 v_null
def ex_1 (o : Nat) (m : Ex) : Ex := (ck1 o m, ev1 o m, max m.2.2 1)
def ex_2 (o : Nat) (m1 m2 : Ex) : Ex := (ck2 o m1 m2, ev2 o m1 m2, max m1.2.2 (max m2.2.2 1 + 1))
theorem ck2_ok {o : Nat} {m1 m2 : Ex} {kn : Nat → Int32} (h : (ck2 o m1 m2 kn).1 = 0) : (m1.1 kn).1 = 0 ∧ (m2.1 kn).1 = 0 ∧ ck2 o m1 m2 kn = sp_kc o [(m1.1 kn).2, (m2.1 kn).2] := by
  unfold ck2 at h ⊢
  by_cases h1 : (m1.1 kn).1 = 0
  · rw [if_neg (fun q => q h1)] at h ⊢
    by_cases h2 : (m2.1 kn).1 = 0
    · rw [if_neg (fun q => q h2)]
      exact ⟨h1, h2, rfl⟩
    · rw [if_pos h2] at h
      exact absurd h h2
  · rw [if_pos h1] at h
    exact absurd h h1
theorem ck1_ok {o : Nat} {m : Ex} {kn : Nat → Int32} (h : (ck1 o m kn).1 = 0) : (m.1 kn).1 = 0 ∧ ck1 o m kn = sp_kc o [(m.1 kn).2] := by
  unfold ck1 at h ⊢
  by_cases h1 : (m.1 kn).1 = 0
  · rw [if_neg (fun q => q h1)]
    exact ⟨h1, rfl⟩
  · rw [if_pos h1] at h
    exact absurd h h1
theorem pr0 {α β : Type} {x : α × β} {a : α} (h : x.1 = a) : x = (a, x.2) := by rw [← h]
section Rw2
variable {z : State} {l : Launch} {d : Nat} {σ : Hp} {ad : Nat → Nat} {Q : Outcome → Hp → Prop} {op sg : Nat → Nat} {aO aS mO mS : Nat} {ko : Nat → Nat} {w : Wd} {len : Nat} {S : Nat → Va} {t : Nat} {kn : Nat → Int32}
/-- two parts one after the other -/
theorem rw_seq2 {m1 m2 : Ex} {a b c e c0 c1 : Nat} {ko0 : Nat → Nat} {ar0 : Nat → Int64} {ch0 : Nat → Int32} (r1 : RepW m1 a b c0 c1 ko0 ar0 ch0) (r2 : RepW m2 b c c0 c1 ko0 ar0 ch0) (hab : a ≤ b) (hbc : b ≤ c) (hce : c ≤ e)
    (hp : KP z σ ad op sg aO aS mO mS ko w len) (hb : e ≤ len) (hj : ∀ j, a ≤ j → j < e → ko j = ko0 j ∧ w.eJ 10 j = ar0 j) (hc : ∀ j, c0 ≤ j → j < c1 → w.eI 11 j = ch0 j) (hS : KS w S t 0) (h8 : 8 ≤ t) (ht1 : t + m1.2.2 ≤ 250) (ht2 : t + (m2.2.2 + 1) ≤ 250) (hr : rg_ok kn S) (k1 : (m1.1 kn).1 = 0) (k2 : (m2.1 kn).1 = 0)
    (ok : (m1.2.1 (rg S)).1 = 0 → (m2.2.1 (rg S)).1 = 0 → ∀ w' S', KF w w' → KS w' S' (t + 2) 0 → (∀ s, s ≤ t → S' s = S s) → S' (t + 1) = (m1.2.1 (rg S)).2 → S' (t + 2) = (m2.2.1 (rg S)).2 → HD z l d σ ad Q w' c)
    (er1 : ¬ (m1.2.1 (rg S)).1 = 0 → ∀ w' S' t', KF w w' → KS w' S' t' (m1.2.1 (rg S)).1 → (∀ s, s ≤ 8 → S' s = S s) → Q (.returned (some (.int (m1.2.1 (rg S)).1))) (ov σ ad 21 w'))
    (er2 : (m1.2.1 (rg S)).1 = 0 → ¬ (m2.2.1 (rg S)).1 = 0 → ∀ w' S' t', KF w w' → KS w' S' t' (m2.2.1 (rg S)).1 → (∀ s, s ≤ 8 → S' s = S s) → Q (.returned (some (.int (m2.2.1 (rg S)).1))) (ov σ ad 21 w')) : HD z l d σ ad Q w a := by
  refine r1 z l d σ ad Q op sg aO aS mO mS ko w len S t kn hp (by omega) (fun j a1 a2 => hj j a1 (by omega)) hc hS h8 ht1 hr k1 (fun e1 w1 S1 f1 hS1 q1 q2 => ?_) er1
  have eR := rg_eq h8 q1
  refine r2 z l d σ ad Q op sg aO aS mO mS ko w1 len S1 (t + 1) kn (hp.kf f1) (by omega) (fun j a1 a2 => ?_) (fun j a1 a2 => ?_) hS1 (by omega) (by omega) (hr.mv h8 q1) k2 (fun e2 w2 S2 f2 hS2 p1 p2 => ?_) (fun e2 w2 S2 t' f2 hS2 p1 => ?_)
  · rw [f1.2.2.2.2.1 10 (by decide)]; exact hj j (by omega) (by omega)
  · rw [f1.2.2.2.1 11 (by decide) (by decide) (by decide)]; exact hc j a1 a2
  · rw [eR] at e2 p2
    exact ok e1 e2 w2 S2 (f1.trans f2) hS2 (fun s hs => (p1 s (by omega)).trans (q1 s hs)) ((p1 (t + 1) (Nat.le_refl _)).trans q2) p2
  · rw [eR] at e2 hS2 ⊢
    exact er2 e1 e2 w2 S2 t' (f1.trans f2) hS2 (fun s hs => (p1 s hs).trans (q1 s (by omega)))
end Rw2
theorem nul_2 (S : Nat → Va) (f : Nat) : nul S f 2 = decide ((S f).1 = 3 ∨ (S (f + 1)).1 = 3) := by
  simp [nul]
theorem nul_1 (S : Nat → Va) (f : Nat) : nul S f 1 = decide ((S f).1 = 3) := by
  simp [nul]
/-- a step of two parts that gives a truth -/
theorem rw_b2 {o : Nat} {m1 m2 : Ex} {a b c c0 c1 : Nat} {ko0 : Nat → Nat} {ar0 : Nat → Int64} {ch0 : Nat → Int32} (s1 : EX_S m1) (s2 : EX_S m2) (r1 : RepW m1 a b c0 c1 ko0 ar0 ch0) (r2 : RepW m2 b c c0 c1 ko0 ar0 ch0) (hab : a ≤ b) (hbc : b ≤ c) (h1 : ko0 c = o) (h2 : ar0 c = 2) (ho2 : o < 43) (hst : ¬ op_strict.getD o 0 = 0) (hres : op_result.getD o 0 = 2)
    (kt : ∀ (z : State) (l : Launch) (d : Nat) (σ : Hp) (ad op sg : Nat → Nat) (aO aS mO mS : Nat) (w : Wd) (S : Nat → Va) (f : Nat) (Q : Outcome → Hp → Prop) (k1 k2 : Int32), CW z σ ad → gj_St z op sg aO aS mO mS → CLk w ad → SLS w S → f + 1 < 251 → (sp_kc o [k1, k2]).1 = 0 → ty_ok k1 (S f) → ty_ok k2 (S (f + 1)) → ¬ (S f).1 = 3 → ¬ (S (f + 1)).1 = 3 →
      (∀ w', SF w w' → SLS w' S → Q (.returned (some (.int (b2i (sp_bool o (S f) (S (f + 1))))))) (ov σ ad 21 w')) → Go z l mt_K_isTrue (d + 18) 0 [.ref (ad 20), .ref (op o), .int (nI f)] [] (ov σ ad 21 w) Q) : RepW (ex_2 o m1 m2) a (c + 1) c0 c1 ko0 ar0 ch0 := by
  intro z l d σ ad Q op sg aO aS mO mS ko w len S t kn hp hb hj hc hS h8 ht hr hk ok er
  obtain ⟨k1, k2, k3⟩ := ck2_ok hk
  have hkc : (sp_kc o [(m1.1 kn).2, (m2.1 kn).2]).1 = 0 := by rw [← k3]; exact hk
  have ht' : t + max m1.2.2 (max m2.2.2 1 + 1) ≤ 250 := ht
  have er' : ∀ x : Int32 × Va, (ex_2 o m1 m2).2.1 (rg S) = x → ¬ x.1 = 0 → ∀ w' S' t', KF w w' → KS w' S' t' x.1 → (∀ s, s ≤ 8 → S' s = S s) → Q (.returned (some (.int x.1))) (ov σ ad 21 w') := fun x hx => by rw [← hx]; exact er
  refine rw_seq2 (e := c + 1) r1 r2 hab hbc (by omega) hp hb hj hc hS h8 (by omega) (by omega) hr k1 k2 (fun e1 e2 w2 S2 f2 hS2 p1 p2 p3 => ?_) (fun e1 => er' _ (if_pos e1) e1) (fun e1 e2 => er' _ ((if_neg (fun q => q e1)).trans (if_pos e2)) e2)
  obtain ⟨q1, q2⟩ := hj c (by omega) (by omega)
  have hp2 := hp.kf f2
  have harg : w2.eJ 10 c = lN 2 := by rw [f2.2.2.2.2.1 10 (by decide), q2, h2]; rfl
  have hR : rg_ok kn (rg S) := fun r hr9 => by rw [rg, if_pos hr9]; exact hr r hr9
  have t1 : ty_ok (m1.1 kn).2 (S2 (t + 1)) := by rw [p2]; exact s1 kn (rg S) _ hR (pr0 k1) e1
  have t2 : ty_ok (m2.1 kn).2 (S2 (t + 2)) := by rw [p3]; exact s2 kn (rg S) _ hR (pr0 k2) e2
  have hev : (ex_2 o m1 m2).2.1 (rg S) = if nul S2 (t + 1) 2 then (0, v_null) else (0, v_bool (sp_bool o (S2 (t + 1)) (S2 (t + 2)))) := by
    rw [nul_2, p2, p3]
    show ev2 o m1 m2 (rg S) = _
    rw [ev2, if_neg (fun q => q e1), if_neg (fun q => q e2)]
    by_cases h : (m1.2.1 (rg S)).2.1 = 3 ∨ (m2.2.1 (rg S)).2.1 = 3
    · rw [if_pos h, decide_eq_true h]; rfl
    · rw [if_neg h, decide_eq_false h, sp_st, if_pos hres]; rfl
  refine ks_sbool (o := o) (n := 2) (f := t + 1) (F := sp_bool o (S2 (t + 1)) (S2 (t + 2))) hp2 hS2 (by omega) (by omega) (by omega) (by omega) (by omega) (q1.trans h1) ho2 hst hres harg (fun hb0 w0 hl0 hS0 Q' kq => ?_) (fun w' f' hS' => ?_)
  · obtain ⟨n1, n2⟩ := nul2 hb0
    exact kt z l d σ ad op sg aO aS mO mS w0 S2 (t + 1) Q' _ _ hp.1 hp.2.1 hl0 hS0 (by omega) hkc t1 t2 n1 n2 kq
  · refine ok (by rw [hev]; split <;> rfl) w' _ (f2.trans f') hS' (fun s hs => (va_up_ne _ _ (by omega)).trans (p1 s hs)) ?_
    rw [va_up_self, hev]
    split <;> rfl
