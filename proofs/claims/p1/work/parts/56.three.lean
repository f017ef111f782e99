/-! ===== three parts: SUBSTR, BETWEEN ===== -/
def ck3 (o : Nat) (m1 m2 m3 : Ex) (kn : Nat → Int32) : Int32 × Int32 := if ¬ (m1.1 kn).1 = 0 then m1.1 kn else if ¬ (m2.1 kn).1 = 0 then m2.1 kn else if ¬ (m3.1 kn).1 = 0 then m3.1 kn else sp_kc o [(m1.1 kn).2, (m2.1 kn).2, (m3.1 kn).2]
theorem ck3_ok {o : Nat} {m1 m2 m3 : Ex} {kn : Nat → Int32} (h : (ck3 o m1 m2 m3 kn).1 = 0) : (m1.1 kn).1 = 0 ∧ (m2.1 kn).1 = 0 ∧ (m3.1 kn).1 = 0 ∧ ck3 o m1 m2 m3 kn = sp_kc o [(m1.1 kn).2, (m2.1 kn).2, (m3.1 kn).2] := by
  unfold ck3 at h ⊢
  by_cases h1 : (m1.1 kn).1 = 0
  · rw [if_neg (fun q => q h1)] at h ⊢
    by_cases h2 : (m2.1 kn).1 = 0
    · rw [if_neg (fun q => q h2)] at h ⊢
      by_cases h3 : (m3.1 kn).1 = 0
      · rw [if_neg (fun q => q h3)]
        exact ⟨h1, h2, h3, rfl⟩
      · rw [if_pos h3] at h
        exact absurd h h3
    · rw [if_pos h2] at h
      exact absurd h h2
  · rw [if_pos h1] at h
    exact absurd h h1
theorem v_same.symm {a b : Va} (h : v_same a b) : v_same b a := by
  rcases h with h | h | h
  · exact Or.inr (Or.inl h)
  · exact Or.inl h
  · exact Or.inr (Or.inr h.symm)
def ex_substr (m1 m2 m3 : Ex) : Ex := (ck3 39 m1 m2 m3, fun R => if ¬ (m1.2.1 R).1 = 0 then m1.2.1 R else if ¬ (m2.2.1 R).1 = 0 then m2.2.1 R else if ¬ (m3.2.1 R).1 = 0 then m3.2.1 R else if (m1.2.1 R).2.1 = 3 ∨ (m2.2.1 R).2.1 = 3 ∨ (m3.2.1 R).2.1 = 3 then (0, v_null) else sp_text 39 (m1.2.1 R).2 (m2.2.1 R).2 (m3.2.1 R).2, max m1.2.2 (max (max m2.2.2 1 + 1) (max m3.2.2 1 + 2)))
theorem kc_substr {k1 k2 k3 : Int32} (h : (sp_kc 39 [k1, k2, k3]).1 = 0) : sp_fits k1 1 ∧ sp_fits k2 0 ∧ sp_fits k3 0 := by
  by_cases h1 : sp_fits k1 1
  · by_cases h2 : sp_fits k2 0
    · by_cases h3 : sp_fits k3 0
      · exact ⟨h1, h2, h3⟩
      · exfalso; simp [sp_kc, sp_takes, sp_kl, sp_due, op_first, op_rest, h1, h2, h3] at h
    · exfalso; simp [sp_kc, sp_takes, sp_kl, sp_due, op_first, op_rest, h1, h2] at h
  · exfalso; simp [sp_kc, sp_takes, sp_kl, sp_due, op_first, op_rest, h1] at h
theorem nul_3 (S : Nat → Va) (f : Nat) : nul S f 3 = decide ((S f).1 = 3 ∨ (S (f + 1)).1 = 3 ∨ (S (f + 2)).1 = 3) := by
  simp [nul, Bool.or_assoc]
theorem rw_substr {m1 m2 m3 : Ex} {a b c e c0 c1 : Nat} {ko0 : Nat → Nat} {ar0 : Nat → Int64} {ch0 : Nat → Int32} (s1 : EX_S m1) (s2 : EX_S m2) (s3 : EX_S m3) (r1 : RepW m1 a b c0 c1 ko0 ar0 ch0) (r2 : RepW m2 b c c0 c1 ko0 ar0 ch0) (r3 : RepW m3 c e c0 c1 ko0 ar0 ch0) (hab : a ≤ b) (hbc : b ≤ c) (hce : c ≤ e) (h1 : ko0 e = 39) (h2 : ar0 e = 3) : RepW (ex_substr m1 m2 m3) a (e + 1) c0 c1 ko0 ar0 ch0 := by
  intro z l d σ ad Q op sg aO aS mO mS ko w len S t kn hp hb hj hc hS h8 ht hr hk ok er
  obtain ⟨k1, k2, k3, k4⟩ := ck3_ok hk
  have hkc : (sp_kc 39 [(m1.1 kn).2, (m2.1 kn).2, (m3.1 kn).2]).1 = 0 := by rw [← k4]; exact hk
  have ht' : t + max m1.2.2 (max (max m2.2.2 1 + 1) (max m3.2.2 1 + 2)) ≤ 250 := ht
  have er' : ∀ x : Int32 × Va, (ex_substr m1 m2 m3).2.1 (rg S) = x → ¬ x.1 = 0 → ∀ w' S' t', KF w w' → KS w' S' t' x.1 → (∀ s, s ≤ 8 → S' s = S s) → Q (.returned (some (.int x.1))) (ov σ ad 21 w') := fun x hx => by rw [← hx]; exact er
  refine rw_seq2 (e := e + 1) r1 r2 hab hbc (by omega) hp hb hj hc hS h8 (by omega) (by omega) hr k1 k2 (fun e1 e2 w2 S2 f2 hS2 p1 p2 p3 => ?_) (fun e1 => er' _ (if_pos e1) e1) (fun e1 e2 => er' _ ((if_neg (fun q => q e1)).trans (if_pos e2)) e2)
  have eR := rg_eq h8 p1
  refine r3 z l d σ ad Q op sg aO aS mO mS ko w2 len S2 (t + 2) kn (hp.kf f2) (by omega) (fun j a1 a2 => ?_) (fun j a1 a2 => ?_) hS2 (by omega) (by omega) (hr.mv h8 p1) k3 (fun e3 w3 S3 f3 hS3 u1 u2 => ?_) (fun e3 w3 S3 t' f3 hS3 u1 => ?_)
  · rw [f2.2.2.2.2.1 10 (by decide)]; exact hj j (by omega) (by omega)
  · rw [f2.2.2.2.1 11 (by decide) (by decide) (by decide)]; exact hc j a1 a2
  · rw [eR] at e3 u2
    have p2' : S3 (t + 1) = (m1.2.1 (rg S)).2 := (u1 (t + 1) (by omega)).trans p2
    have p3' : S3 (t + 2) = (m2.2.1 (rg S)).2 := (u1 (t + 2) (by omega)).trans p3
    have u2' : S3 (t + 3) = (m3.2.1 (rg S)).2 := u2
    have lo : ∀ s, s ≤ t → S3 s = S s := fun s hs => (u1 s (by omega)).trans (p1 s hs)
    obtain ⟨q1, q2⟩ := hj e (by omega) (by omega)
    have f23 := f2.trans f3
    have harg : w3.eJ 10 e = lN 3 := by rw [f23.2.2.2.2.1 10 (by decide), q2, h2]; rfl
    have hR : rg_ok kn (rg S) := fun r hr9 => by rw [rg, if_pos hr9]; exact hr r hr9
    have t1 : ty_ok (m1.1 kn).2 (S3 (t + 1)) := by rw [p2']; exact s1 kn (rg S) _ hR (pr0 k1) e1
    have t2 : ty_ok (m2.1 kn).2 (S3 (t + 2)) := by rw [p3']; exact s2 kn (rg S) _ hR (pr0 k2) e2
    have t3 : ty_ok (m3.1 kn).2 (S3 (t + 3)) := by rw [u2']; exact s3 kn (rg S) _ hR (pr0 k3) e3
    obtain ⟨g1, g2, g3⟩ := kc_substr hkc
    have hev : (ex_substr m1 m2 m3).2.1 (rg S) = if nul S3 (t + 1) 3 then (0, v_null) else sp_text 39 (S3 (t + 1)) (S3 (t + 2)) (S3 (t + 3)) := by
      rw [nul_3, p2', show t + 1 + 1 = t + 2 from rfl, show t + 1 + 2 = t + 3 from rfl, p3', u2']
      refine (if_neg (fun q => q e1)).trans ((if_neg (fun q => q e2)).trans ((if_neg (fun q => q e3)).trans ?_))
      by_cases h : (m1.2.1 (rg S)).2.1 = 3 ∨ (m2.2.1 (rg S)).2.1 = 3 ∨ (m3.2.1 (rg S)).2.1 = 3
      · rw [if_pos h, decide_eq_true h]; rfl
      · rw [if_neg h, decide_eq_false h]; rfl
    refine ks_stext (o := 39) (n := 3) (f := t + 1) (t := t + 3) (x := sp_text 39 (S3 (t + 1)) (S3 (t + 2)) (S3 (t + 3))) (hp.kf f23) hS3 (by omega) (by omega) (by omega) (by omega) (by omega) (q1.trans h1) (by omega) (by decide) (by decide) harg (fun hb0 w0 hl0 hS0 Q' kq => ?_) (fun hb0 w' f' hS' => ?_) (fun hb0 w' f' hS' => ?_)
    · obtain ⟨n1, n2, n3⟩ := nul3 hb0
      exact kx_39 hp.1 hp.2.1 hl0 hS0 (by omega) (ty_fit t1 n1 g1 (by decide) (by decide)) (ty_fit t2 n2 g2 (by decide) (by decide)) (ty_fit t3 n3 g3 (by decide) (by decide)) t2.2.1 t3.2.1 kq
    · rw [hb0, if_pos rfl] at hev
      exact rw_fin (x := (0, v_null)) hp h8 (f23.trans f') hS' lo (by rw [← hev]; exact ok) (by rw [← hev]; exact er)
    · rw [hb0] at hev
      exact rw_fin (x := sp_text 39 (S3 (t + 1)) (S3 (t + 2)) (S3 (t + 3))) hp h8 (f23.trans f') hS' lo (by rw [show (ex_substr m1 m2 m3).2.1 (rg S) = _ from hev] at ok; exact ok) (by rw [show (ex_substr m1 m2 m3).2.1 (rg S) = _ from hev] at er; exact er)
  · rw [eR] at e3 hS3 ⊢
    exact er' _ ((if_neg (fun q => q e1)).trans ((if_neg (fun q => q e2)).trans (if_pos e3))) e3 w3 S3 t' (f2.trans f3) hS3 (fun s hs => (u1 s (by omega)).trans (p1 s (by omega)))
/-! x BETWEEN low AND high -/
def ex_between (m1 m2 m3 : Ex) : Ex := (ck3 19 m1 m2 m3, fun R => if ¬ (m1.2.1 R).1 = 0 then m1.2.1 R else if ¬ (m2.2.1 R).1 = 0 then m2.2.1 R else if v_tr 0 (v_le (m2.2.1 R).2 (m1.2.1 R).2) then (0, (2, 0, [])) else if ¬ (m3.2.1 R).1 = 0 then m3.2.1 R else (0, v_dec 0 (v_le (m2.2.1 R).2 (m1.2.1 R).2) (v_le (m1.2.1 R).2 (m3.2.1 R).2)), max m1.2.2 (max (max m2.2.2 1 + 1) (max m3.2.2 1 + 2)))
theorem kc_between {k1 k2 k3 : Int32} (h : (sp_kc 19 [k1, k2, k3]).1 = 0) : sp_fits k2 k1 ∧ (¬ k1 = 3 → sp_fits k3 k1) := by
  by_cases h2 : sp_fits k2 k1
  · refine ⟨h2, fun hn => ?_⟩
    by_cases h3 : sp_fits k3 k1
    · exact h3
    · exfalso; simp [sp_kc, sp_takes, sp_kl, sp_due, op_first, op_rest, hn, h3] at h
  · exfalso; simp [sp_kc, sp_takes, sp_kl, sp_due, op_first, op_rest, h2] at h
theorem v_le_ok (a b : Va) : v_ok (v_le a b) := by
  unfold v_le
  split
  · exact v_ok_null
  · exact v_ok_b _
theorem rw_between {m1 m2 m3 : Ex} {a b c e c0 c1 : Nat} {ko0 : Nat → Nat} {ar0 : Nat → Int64} {ch0 : Nat → Int32} (s1 : EX_S m1) (s2 : EX_S m2) (s3 : EX_S m3) (r1 : RepW m1 a b c0 c1 ko0 ar0 ch0) (r2 : RepW m2 b c c0 c1 ko0 ar0 ch0) (r3 : RepW m3 (c + 1) e c0 c1 ko0 ar0 ch0) (hab : a ≤ b) (hbc : b ≤ c) (hce : c + 1 ≤ e) (he : e ≤ 1000) (h1 : ko0 c = 10) (h2 : ar0 c = lN e) (h3 : ko0 e = 19) : RepW (ex_between m1 m2 m3) a (e + 1) c0 c1 ko0 ar0 ch0 := by
  intro z l d σ ad Q op sg aO aS mO mS ko w len S t kn hp hb hj hc hS h8 ht hr hk ok er
  obtain ⟨k1, k2, k3, k4⟩ := ck3_ok hk
  have hkc : (sp_kc 19 [(m1.1 kn).2, (m2.1 kn).2, (m3.1 kn).2]).1 = 0 := by rw [← k4]; exact hk
  obtain ⟨g1, g2⟩ := kc_between hkc
  have ht' : t + max m1.2.2 (max (max m2.2.2 1 + 1) (max m3.2.2 1 + 2)) ≤ 250 := ht
  have hR : rg_ok kn (rg S) := fun r hr9 => by rw [rg, if_pos hr9]; exact hr r hr9
  have er' : ∀ x : Int32 × Va, (ex_between m1 m2 m3).2.1 (rg S) = x → ¬ x.1 = 0 → ∀ w' S' t', KF w w' → KS w' S' t' x.1 → (∀ s, s ≤ 8 → S' s = S s) → Q (.returned (some (.int x.1))) (ov σ ad 21 w') := fun x hx => by rw [← hx]; exact er
  refine rw_seq2 (e := e + 1) r1 r2 hab hbc (by omega) hp hb hj hc hS h8 (by omega) (by omega) hr k1 k2 (fun e1 e2 w2 S2 f2 hS2 p1 p2 p3 => ?_) (fun e1 => er' _ (if_pos e1) e1) (fun e1 e2 => er' _ ((if_neg (fun q => q e1)).trans (if_pos e2)) e2)
  have t1 : ty_ok (m1.1 kn).2 (S2 (t + 1)) := by rw [p2]; exact s1 kn (rg S) _ hR (pr0 k1) e1
  have t2 : ty_ok (m2.1 kn).2 (S2 (t + 2)) := by rw [p3]; exact s2 kn (rg S) _ hR (pr0 k2) e2
  obtain ⟨q1, q2⟩ := hj c (by omega) (by omega)
  obtain ⟨q3, q4⟩ := hj e (by omega) (by omega)
  have hp2 := hp.kf f2
  refine ks_betweenlow (t := t + 2) hp2 hS2 (by omega) (by omega) (by omega) (q1.trans h1) (tg := e) (by rw [f2.2.2.2.2.1 10 (by decide), q2, h2]) (by omega) he (v_same_of t1 t2 g1).symm (fun hv w3 S3 f3 hS3 lo hi => ?_) (fun hv w3 f3 hS3 => ?_)
  · rw [show t + 2 - 1 = t + 1 from rfl, p2, p3] at hv
    have hev : (ex_between m1 m2 m3).2.1 (rg S) = (0, (2, 0, [])) := (if_neg (fun q => q e1)).trans ((if_neg (fun q => q e2)).trans (if_pos hv))
    exact ok (by rw [hev]) w3 S3 (f2.trans f3) hS3 (fun s hs => (lo s (by omega)).trans (p1 s hs)) (by rw [hev]; exact hi)
  · rw [show t + 2 - 1 = t + 1 from rfl, p2, p3] at hv
    rw [show t + 2 - 1 = t + 1 from rfl] at hS3
    have lo3 : ∀ s, s ≤ t → va_up S2 (t + 2) (v_le (S2 (t + 2)) (S2 (t + 1))) s = S s := fun s hs => (va_up_ne _ _ (by omega)).trans (p1 s hs)
    have eR := rg_eq h8 lo3
    have f23 := f2.trans f3
    refine r3 z l d σ ad Q op sg aO aS mO mS ko w3 len _ (t + 2) kn (hp.kf f23) (by omega) (fun j a1 a2 => ?_) (fun j a1 a2 => ?_) hS3 (by omega) (by omega) (hr.mv h8 lo3) k3 (fun e3 w4 S4 f4 hS4 u1 u2 => ?_) (fun e3 w4 S4 t' f4 hS4 u1 => ?_)
    · rw [f23.2.2.2.2.1 10 (by decide)]; exact hj j (by omega) (by omega)
    · rw [f23.2.2.2.1 11 (by decide) (by decide) (by decide)]; exact hc j a1 a2
    · rw [eR] at e3 u2
      have v1 : S4 (t + 1) = (m1.2.1 (rg S)).2 := (u1 (t + 1) (by omega)).trans ((va_up_ne _ _ (by omega)).trans p2)
      have v2 : S4 (t + 2) = v_le (m2.2.1 (rg S)).2 (m1.2.1 (rg S)).2 := (u1 (t + 2) (by omega)).trans ((va_up_self _ _ _).trans (by rw [p2, p3]))
      have v3 : S4 (t + 3) = (m3.2.1 (rg S)).2 := u2
      have t3 : ty_ok (m3.1 kn).2 (S4 (t + 3)) := by rw [v3]; exact s3 kn (rg S) _ hR (pr0 k3) e3
      have t1' : ty_ok (m1.1 kn).2 (S4 (t + 1)) := by rw [v1, ← p2]; exact t1
      have hsm : v_same (S4 (t + 1)) (S4 (t + 3)) := by
        by_cases n1 : (S4 (t + 1)).1 = 3
        · exact Or.inl n1
        · exact v_same_of t1' t3 (g2 (fun q => n1 ((t1'.k n1).trans q)))
      have hev : (ex_between m1 m2 m3).2.1 (rg S) = (0, v_dec 0 (v_le (m2.2.1 (rg S)).2 (m1.2.1 (rg S)).2) (v_le (m1.2.1 (rg S)).2 (m3.2.1 (rg S)).2)) := (if_neg (fun q => q e1)).trans ((if_neg (fun q => q e2)).trans ((if_neg hv).trans (if_neg (fun q => q e3))))
      refine ks_between (t := t + 3) (hp.kf (f23.trans f4)) hS4 (by omega) (by omega) (by omega) (q3.trans h3) hsm (fun w5 S5 f5 hS5 lo hi => ok (by rw [hev]) w5 S5 ((f23.trans f4).trans f5) hS5 (fun s hs => (lo s (by omega)).trans ((u1 s (by omega)).trans (lo3 s hs))) ?_)
      rw [hev]
      refine Eq.trans hi ?_
      rw [show t + 3 - 1 = t + 2 from rfl, show t + 3 - 2 = t + 1 from rfl, v1, v2, v3]
    · rw [eR] at e3 hS4 ⊢
      exact er' _ ((if_neg (fun q => q e1)).trans ((if_neg (fun q => q e2)).trans ((if_neg hv).trans (if_pos e3)))) e3 w4 S4 t' (f23.trans f4) hS4 (fun s hs => (u1 s (by omega)).trans (lo3 s (by omega)))
