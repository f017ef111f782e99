/-! ===== steps of two parts: numbers, texts; which they are ===== -/
theorem v_ok.kd {v : Va} (h : v_ok v) : v.1 = 0 ∨ v.1 = 1 ∨ v.1 = 2 ∨ v.1 = 3 := by
  rcases h with ⟨h, -⟩ | ⟨h, -⟩ | ⟨h, -⟩ | h
  · exact Or.inl h
  · exact Or.inr (Or.inl h)
  · exact Or.inr (Or.inr (Or.inl h))
  · rw [h]; exact Or.inr (Or.inr (Or.inr rfl))
theorem ty_ok.k {k : Int32} {v : Va} (h : ty_ok k v) (hn : ¬ v.1 = 3) : v.1 = k := h.2.2.elim (fun q => absurd q hn) id
theorem ty_fit {k due : Int32} {v : Va} (h : ty_ok k v) (hn : ¬ v.1 = 3) (hf : sp_fits k due) (hd : ¬ due = 3) (hd5 : ¬ due = 5) : v.1 = due := by
  have e := h.k hn
  rcases hf with q | q | q | q
  · exact e.trans q
  · exact absurd (e.trans q) hn
  · exact absurd q hd
  · exact absurd q hd5
theorem same_of {k1 k2 : Int32} {a b : Va} (h1 : ty_ok k1 a) (h2 : ty_ok k2 b) (n1 : ¬ a.1 = 3) (n2 : ¬ b.1 = 3) (hf : sp_fits k2 k1) : a.1 = b.1 := by
  have e1 := h1.k n1
  refine (ty_fit h2 n2 hf (fun q => n1 (e1.trans q)) (fun q => ?_)).symm ▸ e1
  rcases h1.1.kd with h | h | h | h <;> rw [h] at e1 <;> rw [q] at e1 <;> exact absurd e1 (by decide)
theorem kc_same {o : Nat} (ho : o = 20 ∨ o = 21 ∨ o = 22 ∨ o = 23 ∨ o = 24 ∨ o = 25) {k1 k2 : Int32} (h : (sp_kc o [k1, k2]).1 = 0) : sp_fits k2 k1 := by
  by_cases hf : sp_fits k2 k1
  · exact hf
  · exfalso
    rcases ho with rfl | rfl | rfl | rfl | rfl | rfl <;> simp [sp_kc, sp_takes, sp_kl, sp_due, op_first, op_rest, hf] at h
theorem kc_two {o : Nat} {x : Int32} (ho : o = 26 ∨ o = 27 ∨ o = 28 ∨ o = 29 ∨ o = 30 ∨ o = 31 ∨ o = 32 ∨ o = 14 ∨ o = 15) (hx : op_first.getD o 0 = x) {k1 k2 : Int32} (h : (sp_kc o [k1, k2]).1 = 0) : sp_fits k1 x ∧ sp_fits k2 x := by
  subst hx
  by_cases h1 : sp_fits k1 (op_first.getD o 0)
  · refine ⟨h1, ?_⟩
    by_cases h2 : sp_fits k2 (op_first.getD o 0)
    · exact h2
    · exfalso
      rcases ho with rfl | rfl | rfl | rfl | rfl | rfl | rfl | rfl | rfl <;> simp only [op_first, List.getD_cons_succ, List.getD_cons_zero] at h1 h2 <;> simp [sp_kc, sp_takes, sp_kl, sp_due, op_first, op_rest, h1, h2] at h
  · exfalso
    rcases ho with rfl | rfl | rfl | rfl | rfl | rfl | rfl | rfl | rfl <;> simp only [op_first, List.getD_cons_succ, List.getD_cons_zero] at h1 <;> (simp [sp_kc, sp_takes, sp_kl, sp_due, op_first, op_rest, h1] at h)
theorem rw_cmp {o : Nat} (ho : o = 20 ∨ o = 21 ∨ o = 22 ∨ o = 23 ∨ o = 24 ∨ o = 25) {m1 m2 : Ex} {a b c c0 c1 : Nat} {ko0 : Nat → Nat} {ar0 : Nat → Int64} {ch0 : Nat → Int32} (s1 : EX_S m1) (s2 : EX_S m2) (r1 : RepW m1 a b c0 c1 ko0 ar0 ch0) (r2 : RepW m2 b c c0 c1 ko0 ar0 ch0) (hab : a ≤ b) (hbc : b ≤ c) (h1 : ko0 c = o) (h2 : ar0 c = 2) : RepW (ex_2 o m1 m2) a (c + 1) c0 c1 ko0 ar0 ch0 := by
  refine rw_b2 s1 s2 r1 r2 hab hbc h1 h2 (by omega) (by rcases ho with rfl | rfl | rfl | rfl | rfl | rfl <;> decide) (by rcases ho with rfl | rfl | rfl | rfl | rfl | rfl <;> decide) (fun z l d σ ad op sg aO aS mO mS w S f Q k1 k2 hc hs hl hS hf hk t1 t2 n1 n2 k => ?_)
  have e := same_of t1 t2 n1 n2 (kc_same ho hk)
  rcases ho with rfl | rfl | rfl | rfl | rfl | rfl
  · exact kt_20 hc hs hl hS hf e k
  · exact kt_21 hc hs hl hS hf e k
  · exact kt_22 hc hs hl hS hf e k
  · exact kt_23 hc hs hl hS hf e k
  · exact kt_24 hc hs hl hS hf e k
  · exact kt_25 hc hs hl hS hf e k
theorem rw_like {m1 m2 : Ex} {a b c c0 c1 : Nat} {ko0 : Nat → Nat} {ar0 : Nat → Int64} {ch0 : Nat → Int32} (s1 : EX_S m1) (s2 : EX_S m2) (r1 : RepW m1 a b c0 c1 ko0 ar0 ch0) (r2 : RepW m2 b c c0 c1 ko0 ar0 ch0) (hab : a ≤ b) (hbc : b ≤ c) (h1 : ko0 c = 26) (h2 : ar0 c = 2) : RepW (ex_2 26 m1 m2) a (c + 1) c0 c1 ko0 ar0 ch0 := by
  refine rw_b2 s1 s2 r1 r2 hab hbc h1 h2 (by omega) (by decide) (by decide) (fun z l d σ ad op sg aO aS mO mS w S f Q k1 k2 hc hs hl hS hf hk t1 t2 n1 n2 k => ?_)
  obtain ⟨f1, f2⟩ := kc_two (o := 26) (x := 1) (by decide) (by decide) hk
  exact kt_26 hc hs hl hS hf (ty_fit t1 n1 f1 (by decide) (by decide)) (ty_fit t2 n2 f2 (by decide) (by decide)) k
/-- behind the parts: an error ends the run, or the value stands -/
theorem rw_fin {z : State} {l : Launch} {d : Nat} {σ : Hp} {ad : Nat → Nat} {Q : Outcome → Hp → Prop} {op sg : Nat → Nat} {aO aS mO mS : Nat} {ko : Nat → Nat} {w w' : Wd} {len : Nat} {S S' : Nat → Va} {t c : Nat} {x : Int32 × Va} (hp : KP z σ ad op sg aO aS mO mS ko w len) (h8 : 8 ≤ t) (hf : KF w w') (hS : KS w' (va_up S' (t + 1) x.2) (t + 1) x.1) (hlo : ∀ s, s ≤ t → S' s = S s)
    (ok : x.1 = 0 → ∀ w' S', KF w w' → KS w' S' (t + 1) 0 → (∀ s, s ≤ t → S' s = S s) → S' (t + 1) = x.2 → HD z l d σ ad Q w' c)
    (er : ¬ x.1 = 0 → ∀ w' S' t', KF w w' → KS w' S' t' x.1 → (∀ s, s ≤ 8 → S' s = S s) → Q (.returned (some (.int x.1))) (ov σ ad 21 w')) : HD z l d σ ad Q w' c := by
  by_cases h : x.1 = 0
  · refine ok h w' _ hf (by rw [← h]; exact hS) (fun s hs => (va_up_ne _ _ (by omega)).trans (hlo s hs)) (va_up_self _ _ _)
  · have hp' := hp.kf hf
    refine kh_err hp'.1 hp'.2.1 hp'.2.2.1 hp'.2.2.2.1 (by rw [hS.2.2]; exact h) ?_
    rw [hS.2.2]
    exact er h w' _ _ hf hS (fun s hs => (va_up_ne _ _ (by omega)).trans (hlo s (by omega)))
/-- a step of two parts that gives a number -/
theorem rw_n2 {o : Nat} (ho : o = 28 ∨ o = 29 ∨ o = 30 ∨ o = 31 ∨ o = 32) {m1 m2 : Ex} {a b c c0 c1 : Nat} {ko0 : Nat → Nat} {ar0 : Nat → Int64} {ch0 : Nat → Int32} (r1 : RepW m1 a b c0 c1 ko0 ar0 ch0) (r2 : RepW m2 b c c0 c1 ko0 ar0 ch0) (hab : a ≤ b) (hbc : b ≤ c) (h1 : ko0 c = o) (h2 : ar0 c = 2) : RepW (ex_2 o m1 m2) a (c + 1) c0 c1 ko0 ar0 ch0 := by
  intro z l d σ ad Q op sg aO aS mO mS ko w len S t kn hp hb hj hc hS h8 ht hr hk ok er
  obtain ⟨k1, k2, k3⟩ := ck2_ok hk
  have ht' : t + max m1.2.2 (max m2.2.2 1 + 1) ≤ 250 := ht
  have er' : ∀ x : Int32 × Va, (ex_2 o m1 m2).2.1 (rg S) = x → ¬ x.1 = 0 → ∀ w' S' t', KF w w' → KS w' S' t' x.1 → (∀ s, s ≤ 8 → S' s = S s) → Q (.returned (some (.int x.1))) (ov σ ad 21 w') := fun x hx => by rw [← hx]; exact er
  refine rw_seq2 (e := c + 1) r1 r2 hab hbc (by omega) hp hb hj hc hS h8 (by omega) (by omega) hr k1 k2 (fun e1 e2 w2 S2 f2 hS2 p1 p2 p3 => ?_) (fun e1 => er' _ (if_pos e1) e1) (fun e1 e2 => er' _ ((if_neg (fun q => q e1)).trans (if_pos e2)) e2)
  obtain ⟨q1, q2⟩ := hj c (by omega) (by omega)
  have hp2 := hp.kf f2
  have harg : w2.eJ 10 c = lN 2 := by rw [f2.2.2.2.2.1 10 (by decide), q2, h2]; rfl
  have hres : op_result.getD o 0 = 0 := by rcases ho with rfl | rfl | rfl | rfl | rfl <;> decide
  have hst : ¬ op_strict.getD o 0 = 0 := by rcases ho with rfl | rfl | rfl | rfl | rfl <;> decide
  have hev : (ex_2 o m1 m2).2.1 (rg S) = if nul S2 (t + 1) 2 then (0, v_null) else (sp_fin (sp_arith o (S2 (t + 1)).2.1 (S2 (t + 2)).2.1), (0, (sp_arith o (S2 (t + 1)).2.1 (S2 (t + 2)).2.1).2, [])) := by
    rw [nul_2, p2, p3]
    show ev2 o m1 m2 (rg S) = _
    rw [ev2, if_neg (fun q => q e1), if_neg (fun q => q e2)]
    by_cases h : (m1.2.1 (rg S)).2.1 = 3 ∨ (m2.2.1 (rg S)).2.1 = 3
    · rw [if_pos h, decide_eq_true h]; rfl
    · rw [if_neg h, decide_eq_false h, sp_st, if_neg (by rw [hres]; decide), if_neg (by rw [hres]; decide)]; rfl
  refine ks_sint (o := o) (n := 2) (f := t + 1) (x := sp_arith o (S2 (t + 1)).2.1 (S2 (t + 2)).2.1) hp2 hS2 (by omega) (by omega) (by omega) (by omega) (by omega) (q1.trans h1) (by omega) hst hres harg (fun hb0 w0 hl0 hS0 Q' kq => ?_) (fun hb0 w' f' hS' => ?_) (fun hb0 w' f' hS' => ?_)
  · rcases ho with rfl | rfl | rfl | rfl | rfl
    · exact kn_28 hp.1 hp.2.1 hl0 hS0 (by omega) kq
    · exact kn_29 hp.1 hp.2.1 hl0 hS0 (by omega) kq
    · exact kn_30 hp.1 hp.2.1 hl0 hS0 (by omega) kq
    · exact kn_31 hp.1 hp.2.1 hl0 hS0 (by omega) kq
    · exact kn_32 hp.1 hp.2.1 hl0 hS0 (by omega) kq
  · rw [hb0, if_pos rfl] at hev
    exact rw_fin (x := (0, v_null)) hp h8 (f2.trans f') hS' p1 (by rw [← hev]; exact ok) (by rw [← hev]; exact er)
  · rw [hb0] at hev
    exact rw_fin (x := (sp_fin (sp_arith o (S2 (t + 1)).2.1 (S2 (t + 2)).2.1), (0, (sp_arith o (S2 (t + 1)).2.1 (S2 (t + 2)).2.1).2, []))) hp h8 (f2.trans f') hS' p1 (by rw [show (ex_2 o m1 m2).2.1 (rg S) = _ from hev] at ok; exact ok) (by rw [show (ex_2 o m1 m2).2.1 (rg S) = _ from hev] at er; exact er)
/-- || -/
theorem rw_join {m1 m2 : Ex} {a b c c0 c1 : Nat} {ko0 : Nat → Nat} {ar0 : Nat → Int64} {ch0 : Nat → Int32} (s1 : EX_S m1) (s2 : EX_S m2) (r1 : RepW m1 a b c0 c1 ko0 ar0 ch0) (r2 : RepW m2 b c c0 c1 ko0 ar0 ch0) (hab : a ≤ b) (hbc : b ≤ c) (h1 : ko0 c = 27) (h2 : ar0 c = 2) : RepW (ex_2 27 m1 m2) a (c + 1) c0 c1 ko0 ar0 ch0 := by
  intro z l d σ ad Q op sg aO aS mO mS ko w len S t kn hp hb hj hc hS h8 ht hr hk ok er
  obtain ⟨k1, k2, k3⟩ := ck2_ok hk
  have hkc : (sp_kc 27 [(m1.1 kn).2, (m2.1 kn).2]).1 = 0 := by rw [← k3]; exact hk
  have ht' : t + max m1.2.2 (max m2.2.2 1 + 1) ≤ 250 := ht
  have er' : ∀ x : Int32 × Va, (ex_2 27 m1 m2).2.1 (rg S) = x → ¬ x.1 = 0 → ∀ w' S' t', KF w w' → KS w' S' t' x.1 → (∀ s, s ≤ 8 → S' s = S s) → Q (.returned (some (.int x.1))) (ov σ ad 21 w') := fun x hx => by rw [← hx]; exact er
  refine rw_seq2 (e := c + 1) r1 r2 hab hbc (by omega) hp hb hj hc hS h8 (by omega) (by omega) hr k1 k2 (fun e1 e2 w2 S2 f2 hS2 p1 p2 p3 => ?_) (fun e1 => er' _ (if_pos e1) e1) (fun e1 e2 => er' _ ((if_neg (fun q => q e1)).trans (if_pos e2)) e2)
  obtain ⟨q1, q2⟩ := hj c (by omega) (by omega)
  have hp2 := hp.kf f2
  have harg : w2.eJ 10 c = lN 2 := by rw [f2.2.2.2.2.1 10 (by decide), q2, h2]; rfl
  have hR : rg_ok kn (rg S) := fun r hr9 => by rw [rg, if_pos hr9]; exact hr r hr9
  have t1 : ty_ok (m1.1 kn).2 (S2 (t + 1)) := by rw [p2]; exact s1 kn (rg S) _ hR (pr0 k1) e1
  have t2 : ty_ok (m2.1 kn).2 (S2 (t + 2)) := by rw [p3]; exact s2 kn (rg S) _ hR (pr0 k2) e2
  obtain ⟨g1, g2⟩ := kc_two (o := 27) (x := 1) (by decide) (by decide) hkc
  have hev : (ex_2 27 m1 m2).2.1 (rg S) = if nul S2 (t + 1) 2 then (0, v_null) else sp_text 27 (S2 (t + 1)) (S2 (t + 2)) v_null := by
    rw [nul_2, p2, p3]
    show ev2 27 m1 m2 (rg S) = _
    rw [ev2, if_neg (fun q => q e1), if_neg (fun q => q e2)]
    by_cases h : (m1.2.1 (rg S)).2.1 = 3 ∨ (m2.2.1 (rg S)).2.1 = 3
    · rw [if_pos h, decide_eq_true h]; rfl
    · rw [if_neg h, decide_eq_false h, sp_st, if_neg (by decide), if_pos (by decide)]; rfl
  refine ks_stext (o := 27) (n := 2) (f := t + 1) (x := sp_text 27 (S2 (t + 1)) (S2 (t + 2)) v_null) hp2 hS2 (by omega) (by omega) (by omega) (by omega) (by omega) (q1.trans h1) (by omega) (by decide) (by decide) harg (fun hb0 w0 hl0 hS0 Q' kq => ?_) (fun hb0 w' f' hS' => ?_) (fun hb0 w' f' hS' => ?_)
  · obtain ⟨n1, n2⟩ := nul2 hb0
    exact kx_27 hp.1 hp.2.1 hl0 hS0 (by omega) (ty_fit t1 n1 g1 (by decide) (by decide)) (ty_fit t2 n2 g2 (by decide) (by decide)) kq
  · rw [hb0, if_pos rfl] at hev
    exact rw_fin (x := (0, v_null)) hp h8 (f2.trans f') hS' p1 (by rw [← hev]; exact ok) (by rw [← hev]; exact er)
  · rw [hb0] at hev
    exact rw_fin (x := sp_text 27 (S2 (t + 1)) (S2 (t + 2)) v_null) hp h8 (f2.trans f') hS' p1 (by rw [show (ex_2 27 m1 m2).2.1 (rg S) = _ from hev] at ok; exact ok) (by rw [show (ex_2 27 m1 m2).2.1 (rg S) = _ from hev] at er; exact er)
