/-! ===== steps of one part; OR, AND, IS NULL, NULLIF ===== -/
theorem kc_one {o : Nat} {x : Int32} (ho : o = 16 ∨ o = 33 ∨ o = 35 ∨ o = 36 ∨ o = 37 ∨ o = 38) (hx : op_first.getD o 0 = x) {k1 : Int32} (h : (sp_kc o [k1]).1 = 0) : sp_fits k1 x := by
  subst hx
  by_cases h1 : sp_fits k1 (op_first.getD o 0)
  · exact h1
  · exfalso
    rcases ho with rfl | rfl | rfl | rfl | rfl | rfl <;> simp only [op_first, List.getD_cons_succ, List.getD_cons_zero] at h1 <;> (simp [sp_kc, sp_takes, sp_kl, sp_due, op_first, op_rest, h1] at h)
theorem rw_not {m : Ex} {a b c0 c1 : Nat} {ko0 : Nat → Nat} {ar0 : Nat → Int64} {ch0 : Nat → Int32} (r : RepW m a b c0 c1 ko0 ar0 ch0) (hab : a ≤ b) (h1 : ko0 b = 16) (h2 : ar0 b = 1) : RepW (ex_1 16 m) a (b + 1) c0 c1 ko0 ar0 ch0 := by
  intro z l d σ ad Q op sg aO aS mO mS ko w len S t kn hp hb hj hc hS h8 ht hr hk ok er
  obtain ⟨k1, k3⟩ := ck1_ok hk
  have ht' : t + max m.2.2 1 ≤ 250 := ht
  have er' : ∀ x : Int32 × Va, (ex_1 16 m).2.1 (rg S) = x → ¬ x.1 = 0 → ∀ w' S' t', KF w w' → KS w' S' t' x.1 → (∀ s, s ≤ 8 → S' s = S s) → Q (.returned (some (.int x.1))) (ov σ ad 21 w') := fun x hx => by rw [← hx]; exact er
  refine r z l d σ ad Q op sg aO aS mO mS ko w len S t kn hp (by omega) (fun j a1 a2 => hj j a1 (by omega)) hc hS h8 (by omega) hr k1 (fun e1 w2 S2 f2 hS2 p1 p2 => ?_) (fun e1 => er' _ (if_pos e1) e1)
  obtain ⟨q1, q2⟩ := hj b (by omega) (by omega)
  have hp2 := hp.kf f2
  have harg : w2.eJ 10 b = lN 1 := by rw [f2.2.2.2.2.1 10 (by decide), q2, h2]; rfl
  have hev : (ex_1 16 m).2.1 (rg S) = if nul S2 (t + 1) 1 then (0, v_null) else (0, v_bool (sp_bool 16 (S2 (t + 1)) v_null)) := by
    rw [nul_1, p2]
    show ev1 16 m (rg S) = _
    rw [ev1, if_neg (fun q => q e1)]
    by_cases h : (m.2.1 (rg S)).2.1 = 3
    · rw [if_pos h, decide_eq_true h]; rfl
    · rw [if_neg h, decide_eq_false h, sp_st, if_pos (by decide)]; rfl
  refine ks_sbool (o := 16) (n := 1) (f := t + 1) (F := sp_bool 16 (S2 (t + 1)) v_null) hp2 hS2 (by omega) (by omega) (by omega) (by omega) (by omega) (q1.trans h1) (by omega) (by decide) (by decide) harg (fun hb0 w0 hl0 hS0 Q' kq => kt_16 hp.1 hp.2.1 hl0 hS0 (by omega) kq) (fun w' f' hS' => ?_)
  refine ok (by rw [hev]; split <;> rfl) w' _ (f2.trans f') hS' (fun s hs => (va_up_ne _ _ (by omega)).trans (p1 s hs)) ?_
  rw [va_up_self, hev]
  split <;> rfl
theorem rw_n1 {o : Nat} (ho : o = 33 ∨ o = 35 ∨ o = 36) {m : Ex} {a b c0 c1 : Nat} {ko0 : Nat → Nat} {ar0 : Nat → Int64} {ch0 : Nat → Int32} (r : RepW m a b c0 c1 ko0 ar0 ch0) (hab : a ≤ b) (h1 : ko0 b = o) (h2 : ar0 b = 1) : RepW (ex_1 o m) a (b + 1) c0 c1 ko0 ar0 ch0 := by
  intro z l d σ ad Q op sg aO aS mO mS ko w len S t kn hp hb hj hc hS h8 ht hr hk ok er
  obtain ⟨k1, k3⟩ := ck1_ok hk
  have ht' : t + max m.2.2 1 ≤ 250 := ht
  have er' : ∀ x : Int32 × Va, (ex_1 o m).2.1 (rg S) = x → ¬ x.1 = 0 → ∀ w' S' t', KF w w' → KS w' S' t' x.1 → (∀ s, s ≤ 8 → S' s = S s) → Q (.returned (some (.int x.1))) (ov σ ad 21 w') := fun x hx => by rw [← hx]; exact er
  refine r z l d σ ad Q op sg aO aS mO mS ko w len S t kn hp (by omega) (fun j a1 a2 => hj j a1 (by omega)) hc hS h8 (by omega) hr k1 (fun e1 w2 S2 f2 hS2 p1 p2 => ?_) (fun e1 => er' _ (if_pos e1) e1)
  obtain ⟨q1, q2⟩ := hj b (by omega) (by omega)
  have hp2 := hp.kf f2
  have harg : w2.eJ 10 b = lN 1 := by rw [f2.2.2.2.2.1 10 (by decide), q2, h2]; rfl
  have hres : op_result.getD o 0 = 0 := by rcases ho with rfl | rfl | rfl <;> decide
  have hst : ¬ op_strict.getD o 0 = 0 := by rcases ho with rfl | rfl | rfl <;> decide
  have hev : (ex_1 o m).2.1 (rg S) = if nul S2 (t + 1) 1 then (0, v_null) else (sp_fin (sp_arith o (S2 (t + 1)).2.1 0), (0, (sp_arith o (S2 (t + 1)).2.1 0).2, [])) := by
    rw [nul_1, p2]
    show ev1 o m (rg S) = _
    rw [ev1, if_neg (fun q => q e1)]
    by_cases h : (m.2.1 (rg S)).2.1 = 3
    · rw [if_pos h, decide_eq_true h]; rfl
    · rw [if_neg h, decide_eq_false h, sp_st, if_neg (by rw [hres]; decide), if_neg (by rw [hres]; decide)]; rfl
  refine ks_sint (o := o) (n := 1) (f := t + 1) (x := sp_arith o (S2 (t + 1)).2.1 0) hp2 hS2 (by omega) (by omega) (by omega) (by omega) (by omega) (q1.trans h1) (by omega) hst hres harg (fun hb0 w0 hl0 hS0 Q' kq => ?_) (fun hb0 w' f' hS' => ?_) (fun hb0 w' f' hS' => ?_)
  · rcases ho with rfl | rfl | rfl
    · exact kn_33 hp.1 hp.2.1 hl0 hS0 (by omega) kq
    · exact kn_35 hp.1 hp.2.1 hl0 hS0 (by omega) kq
    · exact kn_36 hp.1 hp.2.1 hl0 hS0 (by omega) kq
  · rw [hb0, if_pos rfl] at hev
    exact rw_fin (x := (0, v_null)) hp h8 (f2.trans f') hS' p1 (by rw [← hev]; exact ok) (by rw [← hev]; exact er)
  · rw [hb0] at hev
    exact rw_fin (x := (sp_fin (sp_arith o (S2 (t + 1)).2.1 0), (0, (sp_arith o (S2 (t + 1)).2.1 0).2, []))) hp h8 (f2.trans f') hS' p1 (by rw [show (ex_1 o m).2.1 (rg S) = _ from hev] at ok; exact ok) (by rw [show (ex_1 o m).2.1 (rg S) = _ from hev] at er; exact er)
theorem rw_x1 {o : Nat} (ho : o = 37 ∨ o = 38) {m : Ex} (s : EX_S m) {a b c0 c1 : Nat} {ko0 : Nat → Nat} {ar0 : Nat → Int64} {ch0 : Nat → Int32} (r : RepW m a b c0 c1 ko0 ar0 ch0) (hab : a ≤ b) (h1 : ko0 b = o) (h2 : ar0 b = 1) : RepW (ex_1 o m) a (b + 1) c0 c1 ko0 ar0 ch0 := by
  intro z l d σ ad Q op sg aO aS mO mS ko w len S t kn hp hb hj hc hS h8 ht hr hk ok er
  obtain ⟨k1, k3⟩ := ck1_ok hk
  have ht' : t + max m.2.2 1 ≤ 250 := ht
  have er' : ∀ x : Int32 × Va, (ex_1 o m).2.1 (rg S) = x → ¬ x.1 = 0 → ∀ w' S' t', KF w w' → KS w' S' t' x.1 → (∀ s, s ≤ 8 → S' s = S s) → Q (.returned (some (.int x.1))) (ov σ ad 21 w') := fun x hx => by rw [← hx]; exact er
  refine r z l d σ ad Q op sg aO aS mO mS ko w len S t kn hp (by omega) (fun j a1 a2 => hj j a1 (by omega)) hc hS h8 (by omega) hr k1 (fun e1 w2 S2 f2 hS2 p1 p2 => ?_) (fun e1 => er' _ (if_pos e1) e1)
  obtain ⟨q1, q2⟩ := hj b (by omega) (by omega)
  have hp2 := hp.kf f2
  have harg : w2.eJ 10 b = lN 1 := by rw [f2.2.2.2.2.1 10 (by decide), q2, h2]; rfl
  have hkc : (sp_kc o [(m.1 kn).2]).1 = 0 := by rw [← k3]; exact hk
  have hR : rg_ok kn (rg S) := fun r hr9 => by rw [rg, if_pos hr9]; exact hr r hr9
  have t1 : ty_ok (m.1 kn).2 (S2 (t + 1)) := by rw [p2]; exact s kn (rg S) _ hR (pr0 k1) e1
  have hres : op_result.getD o 0 = 1 := by rcases ho with rfl | rfl <;> decide
  have hst : ¬ op_strict.getD o 0 = 0 := by rcases ho with rfl | rfl <;> decide
  have g1 := kc_one (o := o) (x := 1) (by omega) (by rcases ho with rfl | rfl <;> decide) hkc
  have hev : (ex_1 o m).2.1 (rg S) = if nul S2 (t + 1) 1 then (0, v_null) else sp_text o (S2 (t + 1)) v_null v_null := by
    rw [nul_1, p2]
    show ev1 o m (rg S) = _
    rw [ev1, if_neg (fun q => q e1)]
    by_cases h : (m.2.1 (rg S)).2.1 = 3
    · rw [if_pos h, decide_eq_true h]; rfl
    · rw [if_neg h, decide_eq_false h, sp_st, if_neg (by rw [hres]; decide), if_pos hres]; rfl
  refine ks_stext (o := o) (n := 1) (f := t + 1) (x := sp_text o (S2 (t + 1)) v_null v_null) hp2 hS2 (by omega) (by omega) (by omega) (by omega) (by omega) (q1.trans h1) (by omega) hst hres harg (fun hb0 w0 hl0 hS0 Q' kq => ?_) (fun hb0 w' f' hS' => ?_) (fun hb0 w' f' hS' => ?_)
  · have g2 := ty_fit t1 (nul1 hb0) g1 (by decide) (by decide)
    rcases ho with rfl | rfl
    · exact kx_37 hp.1 hp.2.1 hl0 hS0 (by omega) g2 kq
    · exact kx_38 hp.1 hp.2.1 hl0 hS0 (by omega) g2 kq
  · rw [hb0, if_pos rfl] at hev
    exact rw_fin (x := (0, v_null)) hp h8 (f2.trans f') hS' p1 (by rw [← hev]; exact ok) (by rw [← hev]; exact er)
  · rw [hb0] at hev
    exact rw_fin (x := sp_text o (S2 (t + 1)) v_null v_null) hp h8 (f2.trans f') hS' p1 (by rw [show (ex_1 o m).2.1 (rg S) = _ from hev] at ok; exact ok) (by rw [show (ex_1 o m).2.1 (rg S) = _ from hev] at er; exact er)
def ex_isnull (m : Ex) : Ex := (ck1 17 m, fun R => if ¬ (m.2.1 R).1 = 0 then m.2.1 R else (0, v_bool (decide ((m.2.1 R).2.1 = 3))), max m.2.2 1)
theorem rw_isnull {m : Ex} {a b c0 c1 : Nat} {ko0 : Nat → Nat} {ar0 : Nat → Int64} {ch0 : Nat → Int32} (r : RepW m a b c0 c1 ko0 ar0 ch0) (hab : a ≤ b) (h1 : ko0 b = 17) : RepW (ex_isnull m) a (b + 1) c0 c1 ko0 ar0 ch0 := by
  intro z l d σ ad Q op sg aO aS mO mS ko w len S t kn hp hb hj hc hS h8 ht hr hk ok er
  obtain ⟨k1, k3⟩ := ck1_ok hk
  have ht' : t + max m.2.2 1 ≤ 250 := ht
  have er' : ∀ x : Int32 × Va, (ex_isnull m).2.1 (rg S) = x → ¬ x.1 = 0 → ∀ w' S' t', KF w w' → KS w' S' t' x.1 → (∀ s, s ≤ 8 → S' s = S s) → Q (.returned (some (.int x.1))) (ov σ ad 21 w') := fun x hx => by rw [← hx]; exact er
  refine r z l d σ ad Q op sg aO aS mO mS ko w len S t kn hp (by omega) (fun j a1 a2 => hj j a1 (by omega)) hc hS h8 (by omega) hr k1 (fun e1 w2 S2 f2 hS2 p1 p2 => ?_) (fun e1 => er' _ (if_pos e1) e1)
  obtain ⟨q1, q2⟩ := hj b (by omega) (by omega)
  have hev : (ex_isnull m).2.1 (rg S) = (0, v_bool (decide ((S2 (t + 1)).1 = 3))) := by rw [p2]; exact if_neg (fun q => q e1)
  refine ks_isnull (hp.kf f2) hS2 (by omega) (by omega) (by omega) (q1.trans h1) (fun w' f' hS' => ok (by rw [hev]) w' _ (f2.trans f') hS' (fun s hs => (va_up_ne _ _ (by omega)).trans (p1 s hs)) ?_)
  rw [va_up_self, hev]
def ex_or (m1 m2 : Ex) : Ex := (ck2 14 m1 m2, fun R => if ¬ (m1.2.1 R).1 = 0 then m1.2.1 R else if v_tr 1 (m1.2.1 R).2 then m1.2.1 R else if ¬ (m2.2.1 R).1 = 0 then m2.2.1 R else (0, v_dec 1 (m1.2.1 R).2 (m2.2.1 R).2), max m1.2.2 (max m2.2.2 1 + 1))
theorem rw_or {m1 m2 : Ex} {a b c c0 c1 : Nat} {ko0 : Nat → Nat} {ar0 : Nat → Int64} {ch0 : Nat → Int32} (r1 : RepW m1 a b c0 c1 ko0 ar0 ch0) (r2 : RepW m2 (b + 1) c c0 c1 ko0 ar0 ch0) (hab : a ≤ b) (hbc : b + 1 ≤ c) (hc9 : c ≤ 1000) (h1 : ko0 b = 6) (h2 : ar0 b = lN c) (h3 : ko0 c = 14) : RepW (ex_or m1 m2) a (c + 1) c0 c1 ko0 ar0 ch0 := by
  intro z l d σ ad Q op sg aO aS mO mS ko w len S t kn hp hb hj hc hS h8 ht hr hk ok er
  obtain ⟨k1, k2, k3⟩ := ck2_ok hk
  have ht' : t + max m1.2.2 (max m2.2.2 1 + 1) ≤ 250 := ht
  have er' : ∀ x : Int32 × Va, (ex_or m1 m2).2.1 (rg S) = x → ¬ x.1 = 0 → ∀ w' S' t', KF w w' → KS w' S' t' x.1 → (∀ s, s ≤ 8 → S' s = S s) → Q (.returned (some (.int x.1))) (ov σ ad 21 w') := fun x hx => by rw [← hx]; exact er
  refine r1 z l d σ ad Q op sg aO aS mO mS ko w len S t kn hp (by omega) (fun j a1 a2 => hj j a1 (by omega)) hc hS h8 (by omega) hr k1 (fun e1 w1 S1 f1 hS1 q1 q2 => ?_) (fun e1 => er' _ (if_pos e1) e1)
  have eR := rg_eq h8 q1
  obtain ⟨g1, g2⟩ := hj b (by omega) (by omega)
  obtain ⟨g3, g4⟩ := hj c (by omega) (by omega)
  have hp1 := hp.kf f1
  refine ks_orleft hp1 hS1 (by omega) (by omega) (by omega) (g1.trans h1) (tg := c) (by rw [f1.2.2.2.2.1 10 (by decide), g2, h2]) (by omega) hc9 (fun hv => ?_) (fun hv => ?_)
  · rw [q2] at hv
    have hev : (ex_or m1 m2).2.1 (rg S) = m1.2.1 (rg S) := (if_neg (fun q => q e1)).trans (if_pos hv)
    exact ok (by rw [hev]; exact e1) w1 S1 f1 hS1 q1 (by rw [hev]; exact q2)
  · rw [q2] at hv
    refine r2 z l d σ ad Q op sg aO aS mO mS ko w1 len S1 (t + 1) kn hp1 (by omega) (fun j a1 a2 => ?_) (fun j a1 a2 => ?_) hS1 (by omega) (by omega) (hr.mv h8 q1) k2 (fun e2 w2 S2 f2 hS2 p1 p2 => ?_) (fun e2 w2 S2 t' f2 hS2 p1 => ?_)
    · rw [f1.2.2.2.2.1 10 (by decide)]; exact hj j (by omega) (by omega)
    · rw [f1.2.2.2.1 11 (by decide) (by decide) (by decide)]; exact hc j a1 a2
    · rw [eR] at e2 p2
      have hev : (ex_or m1 m2).2.1 (rg S) = (0, v_dec 1 (m1.2.1 (rg S)).2 (m2.2.1 (rg S)).2) := (if_neg (fun q => q e1)).trans ((if_neg hv).trans (if_neg (fun q => q e2)))
      refine ks_or (t := t + 2) (hp1.kf f2) hS2 (by omega) (by omega) (by omega) (g3.trans h3) (fun w' f' hS' => ok (by rw [hev]) w' _ ((f1.trans f2).trans f') hS' (fun s hs => (va_up_ne _ _ (by omega)).trans ((p1 s (by omega)).trans (q1 s hs))) ?_)
      rw [show t + 2 - 1 = t + 1 from rfl, va_up_self, hev, show S2 (t + 2) = _ from p2, p1 (t + 1) (Nat.le_refl _), q2]
    · rw [eR] at e2 hS2 ⊢
      have hev : (ex_or m1 m2).2.1 (rg S) = m2.2.1 (rg S) := (if_neg (fun q => q e1)).trans ((if_neg hv).trans (if_pos e2))
      exact er' _ hev e2 w2 S2 t' (f1.trans f2) hS2 (fun s hs => (p1 s hs).trans (q1 s (by omega)))
def ex_and (m1 m2 : Ex) : Ex := (ck2 15 m1 m2, fun R => if ¬ (m1.2.1 R).1 = 0 then m1.2.1 R else if v_tr 0 (m1.2.1 R).2 then m1.2.1 R else if ¬ (m2.2.1 R).1 = 0 then m2.2.1 R else (0, v_dec 0 (m1.2.1 R).2 (m2.2.1 R).2), max m1.2.2 (max m2.2.2 1 + 1))
theorem rw_and {m1 m2 : Ex} {a b c c0 c1 : Nat} {ko0 : Nat → Nat} {ar0 : Nat → Int64} {ch0 : Nat → Int32} (r1 : RepW m1 a b c0 c1 ko0 ar0 ch0) (r2 : RepW m2 (b + 1) c c0 c1 ko0 ar0 ch0) (hab : a ≤ b) (hbc : b + 1 ≤ c) (hc9 : c ≤ 1000) (h1 : ko0 b = 7) (h2 : ar0 b = lN c) (h3 : ko0 c = 15) : RepW (ex_and m1 m2) a (c + 1) c0 c1 ko0 ar0 ch0 := by
  intro z l d σ ad Q op sg aO aS mO mS ko w len S t kn hp hb hj hc hS h8 ht hr hk ok er
  obtain ⟨k1, k2, k3⟩ := ck2_ok hk
  have ht' : t + max m1.2.2 (max m2.2.2 1 + 1) ≤ 250 := ht
  have er' : ∀ x : Int32 × Va, (ex_and m1 m2).2.1 (rg S) = x → ¬ x.1 = 0 → ∀ w' S' t', KF w w' → KS w' S' t' x.1 → (∀ s, s ≤ 8 → S' s = S s) → Q (.returned (some (.int x.1))) (ov σ ad 21 w') := fun x hx => by rw [← hx]; exact er
  refine r1 z l d σ ad Q op sg aO aS mO mS ko w len S t kn hp (by omega) (fun j a1 a2 => hj j a1 (by omega)) hc hS h8 (by omega) hr k1 (fun e1 w1 S1 f1 hS1 q1 q2 => ?_) (fun e1 => er' _ (if_pos e1) e1)
  have eR := rg_eq h8 q1
  obtain ⟨g1, g2⟩ := hj b (by omega) (by omega)
  obtain ⟨g3, g4⟩ := hj c (by omega) (by omega)
  have hp1 := hp.kf f1
  refine ks_andleft hp1 hS1 (by omega) (by omega) (by omega) (g1.trans h1) (tg := c) (by rw [f1.2.2.2.2.1 10 (by decide), g2, h2]) (by omega) hc9 (fun hv => ?_) (fun hv => ?_)
  · rw [q2] at hv
    have hev : (ex_and m1 m2).2.1 (rg S) = m1.2.1 (rg S) := (if_neg (fun q => q e1)).trans (if_pos hv)
    exact ok (by rw [hev]; exact e1) w1 S1 f1 hS1 q1 (by rw [hev]; exact q2)
  · rw [q2] at hv
    refine r2 z l d σ ad Q op sg aO aS mO mS ko w1 len S1 (t + 1) kn hp1 (by omega) (fun j a1 a2 => ?_) (fun j a1 a2 => ?_) hS1 (by omega) (by omega) (hr.mv h8 q1) k2 (fun e2 w2 S2 f2 hS2 p1 p2 => ?_) (fun e2 w2 S2 t' f2 hS2 p1 => ?_)
    · rw [f1.2.2.2.2.1 10 (by decide)]; exact hj j (by omega) (by omega)
    · rw [f1.2.2.2.1 11 (by decide) (by decide) (by decide)]; exact hc j a1 a2
    · rw [eR] at e2 p2
      have hev : (ex_and m1 m2).2.1 (rg S) = (0, v_dec 0 (m1.2.1 (rg S)).2 (m2.2.1 (rg S)).2) := (if_neg (fun q => q e1)).trans ((if_neg hv).trans (if_neg (fun q => q e2)))
      refine ks_and (t := t + 2) (hp1.kf f2) hS2 (by omega) (by omega) (by omega) (g3.trans h3) (fun w' f' hS' => ok (by rw [hev]) w' _ ((f1.trans f2).trans f') hS' (fun s hs => (va_up_ne _ _ (by omega)).trans ((p1 s (by omega)).trans (q1 s hs))) ?_)
      rw [show t + 2 - 1 = t + 1 from rfl, va_up_self, hev, show S2 (t + 2) = _ from p2, p1 (t + 1) (Nat.le_refl _), q2]
    · rw [eR] at e2 hS2 ⊢
      have hev : (ex_and m1 m2).2.1 (rg S) = m2.2.1 (rg S) := (if_neg (fun q => q e1)).trans ((if_neg hv).trans (if_pos e2))
      exact er' _ hev e2 w2 S2 t' (f1.trans f2) hS2 (fun s hs => (p1 s hs).trans (q1 s (by omega)))
def ex_nullif (m1 m2 : Ex) : Ex := (ck2 41 m1 m2, fun R => if ¬ (m1.2.1 R).1 = 0 then m1.2.1 R else if ¬ (m2.2.1 R).1 = 0 then m2.2.1 R else (0, v_nullif (m1.2.1 R).2 (m2.2.1 R).2), max m1.2.2 (max m2.2.2 1 + 1))
theorem kc_nullif {k1 k2 : Int32} (h : (sp_kc 41 [k1, k2]).1 = 0) : sp_fits k2 k1 := by
  by_cases hf : sp_fits k2 k1
  · exact hf
  · exfalso
    simp [sp_kc, sp_takes, sp_kl, sp_due, op_first, op_rest, hf] at h
theorem v_same_of {k1 k2 : Int32} {a b : Va} (h1 : ty_ok k1 a) (h2 : ty_ok k2 b) (hf : sp_fits k2 k1) : v_same a b := by
  by_cases n1 : a.1 = 3
  · exact Or.inl n1
  · by_cases n2 : b.1 = 3
    · exact Or.inr (Or.inl n2)
    · exact Or.inr (Or.inr (same_of h1 h2 n1 n2 hf))
theorem rw_nullif {m1 m2 : Ex} {a b c c0 c1 : Nat} {ko0 : Nat → Nat} {ar0 : Nat → Int64} {ch0 : Nat → Int32} (s1 : EX_S m1) (s2 : EX_S m2) (r1 : RepW m1 a b c0 c1 ko0 ar0 ch0) (r2 : RepW m2 b c c0 c1 ko0 ar0 ch0) (hab : a ≤ b) (hbc : b ≤ c) (h1 : ko0 c = 41) : RepW (ex_nullif m1 m2) a (c + 1) c0 c1 ko0 ar0 ch0 := by
  intro z l d σ ad Q op sg aO aS mO mS ko w len S t kn hp hb hj hc hS h8 ht hr hk ok er
  obtain ⟨k1, k2, k3⟩ := ck2_ok hk
  have hkc : (sp_kc 41 [(m1.1 kn).2, (m2.1 kn).2]).1 = 0 := by rw [← k3]; exact hk
  have ht' : t + max m1.2.2 (max m2.2.2 1 + 1) ≤ 250 := ht
  have er' : ∀ x : Int32 × Va, (ex_nullif m1 m2).2.1 (rg S) = x → ¬ x.1 = 0 → ∀ w' S' t', KF w w' → KS w' S' t' x.1 → (∀ s, s ≤ 8 → S' s = S s) → Q (.returned (some (.int x.1))) (ov σ ad 21 w') := fun x hx => by rw [← hx]; exact er
  refine rw_seq2 (e := c + 1) r1 r2 hab hbc (by omega) hp hb hj hc hS h8 (by omega) (by omega) hr k1 k2 (fun e1 e2 w2 S2 f2 hS2 p1 p2 p3 => ?_) (fun e1 => er' _ (if_pos e1) e1) (fun e1 e2 => er' _ ((if_neg (fun q => q e1)).trans (if_pos e2)) e2)
  obtain ⟨q1, q2⟩ := hj c (by omega) (by omega)
  have hR : rg_ok kn (rg S) := fun r hr9 => by rw [rg, if_pos hr9]; exact hr r hr9
  have t1 : ty_ok (m1.1 kn).2 (S2 (t + 1)) := by rw [p2]; exact s1 kn (rg S) _ hR (pr0 k1) e1
  have t2 : ty_ok (m2.1 kn).2 (S2 (t + 2)) := by rw [p3]; exact s2 kn (rg S) _ hR (pr0 k2) e2
  have hev : (ex_nullif m1 m2).2.1 (rg S) = (0, v_nullif (S2 (t + 1)) (S2 (t + 2))) := by rw [p2, p3]; exact (if_neg (fun q => q e1)).trans (if_neg (fun q => q e2))
  refine ks_nullif (t := t + 2) (hp.kf f2) hS2 (by omega) (by omega) (by omega) (q1.trans h1) (v_same_of t1 t2 (kc_nullif hkc)) (fun w' S' f' hS' lo hi => ok (by rw [hev]) w' S' (f2.trans f') hS' (fun s hs => (lo s (by omega)).trans (p1 s hs)) ?_)
  rw [hev]
  exact hi
