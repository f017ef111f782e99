/-! ===== IN, COALESCE, CASE ===== -/
def ex_in (mx : Ex) (ms : List Ex) : Ex := (ckn 18 (mx :: ms), fun R => if ¬ (mx.2.1 R).1 = 0 then mx.2.1 R else ev_in (mx.2.1 R).2 (2, 0, []) ms R, max mx.2.2 (wdl ms + 2))
def ex_co (ms : List Ex) : Ex := (ckn 40 ms, ev_co ms, wdl ms)
theorem due_same {o : Nat} (ho : o = 18 ∨ o = 40) (i n : Nat) : sp_due o i n = 4 := by
  rcases ho with rfl | rfl <;> simp [sp_due, op_first, op_rest]
theorem kc_in {k1 : Int32} {ks : List Int32} (h : (sp_kc 18 (k1 :: ks)).1 = 0) : ¬ k1 = 3 → ∀ k ∈ ks, sp_fits k k1 := by
  have ht : sp_takes 18 (k1 :: ks).length = true := by simp [sp_takes]
  rw [sp_kc, if_pos ht] at h
  have h' : (sp_kl 18 (k1 :: ks).length (k1 :: ks) 0 3 0).1 = 0 := h
  have e1 : sp_kl 18 (k1 :: ks).length (k1 :: ks) 0 3 0 = sp_kl 18 (k1 :: ks).length ks 1 k1 0 := (if_pos (due_same (Or.inl rfl) _ _)).trans (by rw [if_pos rfl, if_pos (Or.inr (Or.inr (Or.inl rfl)))])
  rw [e1] at h'
  exact fun hn => ((kl_same (due_same (Or.inl rfl) · _) _ _ _ _ h').2 hn).2
theorem rw_in {mx : Ex} {ps : List (Ex × Nat)} {a b e c0 c1 : Nat} {ko0 : Nat → Nat} {ar0 : Nat → Int64} {ch0 : Nat → Int32} (sx : EX_S mx) (sm : ∀ m ∈ ps.map Prod.fst, EX_S m) (rx : RepW mx a b c0 c1 ko0 ar0 ch0) (hab : a ≤ b) (h1 : ko0 b = 8) (hC : Chain 9 e c0 c1 ko0 ar0 ch0 ps (b + 1) e) (he : e ≤ 1000) (h2 : ko0 e = 18) : RepW (ex_in mx (ps.map Prod.fst)) a (e + 1) c0 c1 ko0 ar0 ch0 := by
  intro z l d σ ad Q op sg aO aS mO mS ko w len S t kn hp hb hj hc hS h8 ht hr hk ok er
  obtain ⟨k1, k2⟩ := ckn_ok hk
  have hbe := hC.le
  have ht' : t + max mx.2.2 (wdl (ps.map Prod.fst) + 2) ≤ 250 := ht
  have hkc : (sp_kc 18 ((mx.1 kn).2 :: (ps.map Prod.fst).map (fun m => (m.1 kn).2))).1 = 0 := by
    have := hk
    rw [show (ex_in mx (ps.map Prod.fst)).1 kn = _ from k2] at this
    exact this
  have hR : rg_ok kn (rg S) := fun r hr9 => by rw [rg, if_pos hr9]; exact hr r hr9
  have kx := k1 mx List.mem_cons_self
  have hev : (ex_in mx (ps.map Prod.fst)).2.1 (rg S) = if ¬ (mx.2.1 (rg S)).1 = 0 then mx.2.1 (rg S) else ev_in (mx.2.1 (rg S)).2 (2, 0, []) (ps.map Prod.fst) (rg S) := rfl
  refine rx z l d σ ad Q op sg aO aS mO mS ko w len S t kn hp (by omega) (fun j a1 a2 => hj j a1 (by omega)) hc hS h8 (by omega) hr kx (fun e1 w1 S1 f1 hS1 q1 q2 => ?_) (fun e1 => ?_)
  · rw [hev, if_neg (fun q => q e1)] at ok er
    obtain ⟨g1, g2⟩ := hj b (by omega) (by omega)
    refine ks_inleft (t := t + 1) (a := ar0 b) (hp.kf f1) hS1 (by omega) (by omega) (by omega) (g1.trans h1) (by rw [f1.2.2.2.2.1 10 (by decide)]; exact g2) (fun w2 f2 hS2 => ?_)
    have f12 := f1.trans f2
    have a2 : va_up S1 (t + 1 + 1) (2, 0, []) (t + 2) = (2, 0, []) := va_up_self _ _ _
    refine rw_in_tail (w0 := w) (S0 := S) (kx := (mx.1 kn).2) (x := (mx.2.1 (rg S)).2) h8 hr (sx kn (rg S) _ hR (pr0 kx) e1) he (by omega) h2 ps (b + 1) w2 _ hC (hp.kf f12) (fun j a1 a3 => ?_) (fun j a1 a3 => ?_) f12 hS2 (fun s hs => (va_up_ne _ _ (by omega)).trans (q1 s hs)) ((va_up_ne _ _ (by omega)).trans q2) (by omega) (fun m hm => ⟨sm m hm, k1 m (List.mem_cons_of_mem _ hm), fun hn => kc_in hkc hn _ (List.mem_map.mpr ⟨m, hm, rfl⟩)⟩) ?_ ?_
    · rw [f12.2.2.2.2.1 10 (by decide)]; exact hj j (by omega) (by omega)
    · rw [f12.2.2.2.1 11 (by decide) (by decide) (by decide)]; exact hc j a1 a3
    · rw [a2]; exact ok
    · rw [a2]; exact er
  · rw [hev, if_pos e1] at er
    exact er e1
section Chains2
variable {z : State} {l : Launch} {d : Nat} {σ : Hp} {ad : Nat → Nat} {Q : Outcome → Hp → Prop} {op sg : Nat → Nat} {aO aS mO mS : Nat} {ko : Nat → Nat} {len : Nat} {S0 : Nat → Va} {t : Nat} {kn : Nat → Int32} {w0 : Wd}
theorem rw_co_tail {e c0 c1 : Nat} {ko0 : Nat → Nat} {ar0 : Nat → Int64} {ch0 : Nat → Int32} (h8 : 8 ≤ t) (hr : rg_ok kn S0) (he : e ≤ 1000) (hel : e < len) (h40 : ko0 e = 40) :
    ∀ (ps : List (Ex × Nat)) (p : Nat) (w : Wd) (S : Nat → Va), Chain 13 e c0 c1 ko0 ar0 ch0 ps p e → KP z σ ad op sg aO aS mO mS ko w len → (∀ j, p ≤ j → j ≤ e → ko j = ko0 j ∧ w.eJ 10 j = ar0 j) → (∀ j, c0 ≤ j → j < c1 → w.eI 11 j = ch0 j) → KF w0 w → KS w S t 0 → (∀ s, s ≤ t → S s = S0 s) → t + wdl (ps.map Prod.fst) ≤ 250 →
      (∀ m ∈ ps.map Prod.fst, (m.1 kn).1 = 0) →
      ((ev_co (ps.map Prod.fst) (rg S0)).1 = 0 → ∀ w' S', KF w0 w' → KS w' S' (t + 1) 0 → (∀ s, s ≤ t → S' s = S0 s) → S' (t + 1) = (ev_co (ps.map Prod.fst) (rg S0)).2 → HD z l d σ ad Q w' (e + 1)) →
      (¬ (ev_co (ps.map Prod.fst) (rg S0)).1 = 0 → ∀ w' S' t', KF w0 w' → KS w' S' t' (ev_co (ps.map Prod.fst) (rg S0)).1 → (∀ s, s ≤ 8 → S' s = S0 s) → Q (.returned (some (.int (ev_co (ps.map Prod.fst) (rg S0)).1))) (ov σ ad 21 w')) →
      HD z l d σ ad Q w p := by
  intro ps
  induction ps with
  | nil =>
    intro p w S hC hp hj hc hf hS lo ht hms ok er
    have hpe : p = e := hC
    subst hpe
    obtain ⟨q1, q2⟩ := hj p (Nat.le_refl _) (Nat.le_refl _)
    have ht' : t + 1 ≤ 250 := ht
    exact ks_coalesce hp hS h8 (by omega) hel (q1.trans h40) (fun w' f' hS' => ok rfl w' _ (hf.trans f') hS' (fun s hs => (va_up_ne _ _ (by omega)).trans (lo s hs)) (va_up_self _ _ _))
  | cons mq r ih =>
    obtain ⟨m, q⟩ := mq
    intro p w S hC hp hj hc hf hS lo ht hms ok er
    obtain ⟨rm, hpq, hk9, hq9, hCr⟩ := hC
    have hqe := hCr.le
    have ht' : t + max (max m.2.2 1) (wdl (r.map Prod.fst)) ≤ 250 := ht
    have km := hms m (List.mem_cons_self)
    have eR := rg_eq h8 lo
    have hev : ev_co (((m, q) :: r).map Prod.fst) (rg S0) = if ¬ (m.2.1 (rg S0)).1 = 0 then m.2.1 (rg S0) else if (m.2.1 (rg S0)).2.1 = 3 then ev_co (r.map Prod.fst) (rg S0) else m.2.1 (rg S0) := rfl
    refine rm z l d σ ad Q op sg aO aS mO mS ko w len S t kn hp (by omega) (fun j a1 a2 => hj j a1 (by omega)) hc hS h8 (by omega) (hr.mv h8 lo) km (fun e1 w1 S1 f1 hS1 u1 u2 => ?_) (fun e1 w1 S1 t' f1 hS1 u1 => ?_)
    · rw [eR] at e1 u2
      rw [hev, if_neg (fun q => q e1)] at ok er
      have hp1 := hp.kf f1
      obtain ⟨g1, g2⟩ := hj q (by omega) (by omega)
      have lo1 : ∀ s, s ≤ t → S1 s = S0 s := fun s hs => (u1 s (by omega)).trans (lo s hs)
      refine ks_coal (t := t + 1) hp1 hS1 (by omega) (by omega) (by omega) (g1.trans hk9) (tg := e) (by rw [f1.2.2.2.2.1 10 (by decide), g2, hq9]) (by omega) he (fun hn w' f' hS' => ?_) (fun hn => ?_)
      · have hn' : (m.2.1 (rg S0)).2.1 = 3 := by rw [← u2]; exact hn
        rw [if_pos hn'] at ok er
        refine ih (q + 1) w' S1 hCr (hp1.kf f') (fun j a1 a2 => ?_) (fun j a1 a2 => ?_) ((hf.trans f1).trans f') hS' lo1 (by omega) (fun m' hm' => hms m' (List.mem_cons_of_mem _ hm')) ok er
        · rw [(f1.trans f').2.2.2.2.1 10 (by decide)]; exact hj j (by omega) a2
        · rw [(f1.trans f').2.2.2.1 11 (by decide) (by decide) (by decide)]; exact hc j a1 a2
      · have hn' : ¬ (m.2.1 (rg S0)).2.1 = 3 := by rw [← u2]; exact hn
        rw [if_neg hn'] at ok
        exact ok e1 w1 S1 (hf.trans f1) hS1 lo1 u2
    · rw [eR] at e1 hS1 ⊢
      rw [hev, if_pos e1] at er
      exact er e1 w1 S1 t' (hf.trans f1) hS1 (fun s hs => (u1 s hs).trans (lo s (by omega)))
end Chains2
theorem rw_co {ps : List (Ex × Nat)} {a e c0 c1 : Nat} {ko0 : Nat → Nat} {ar0 : Nat → Int64} {ch0 : Nat → Int32} (hC : Chain 13 e c0 c1 ko0 ar0 ch0 ps a e) (he : e ≤ 1000) (h2 : ko0 e = 40) : RepW (ex_co (ps.map Prod.fst)) a (e + 1) c0 c1 ko0 ar0 ch0 := by
  intro z l d σ ad Q op sg aO aS mO mS ko w len S t kn hp hb hj hc hS h8 ht hr hk ok er
  obtain ⟨k1, k2⟩ := ckn_ok hk
  exact rw_co_tail (w0 := w) (S0 := S) h8 hr he (by omega) h2 ps a w S hC hp (fun j a1 a2 => hj j a1 (by omega)) hc (KF.refl w) hS (fun _ _ => rfl) ht k1 ok er
/-! CASE -/
def ev_ca (me : Ex) : List (Ex × Ex) → (Nat → Va) → Int32 × Va
  | [], R => me.2.1 R
  | (c, r) :: cs, R => if ¬ (c.2.1 R).1 = 0 then c.2.1 R else if v_tr 1 (c.2.1 R).2 then r.2.1 R else ev_ca me cs R
def ca_parts (me : Ex) : List (Ex × Ex) → List Ex
  | [] => [me]
  | (c, r) :: cs => c :: r :: ca_parts me cs
def ex_case (cs : List (Ex × Ex)) (me : Ex) : Ex := (ckn 34 (ca_parts me cs), ev_ca me cs, wdl (ca_parts me cs))
def ChainC (tg c0 c1 : Nat) (ko0 : Nat → Nat) (ar0 : Nat → Int64) (ch0 : Nat → Int32) : List (Ex × Nat × Ex × Nat) → Nat → Nat → Prop
  | [], p, e => p = e
  | (c, q, r, u) :: cs, p, e => RepW c p q c0 c1 ko0 ar0 ch0 ∧ p ≤ q ∧ ko0 q = 11 ∧ ar0 q = lN u ∧ RepW r (q + 1) u c0 c1 ko0 ar0 ch0 ∧ q + 1 ≤ u ∧ ko0 u = 12 ∧ ar0 u = lN tg ∧ ChainC tg c0 c1 ko0 ar0 ch0 cs (u + 1) e
theorem ChainC.le {tg c0 c1 : Nat} {ko0 : Nat → Nat} {ar0 : Nat → Int64} {ch0 : Nat → Int32} : ∀ {ps : List (Ex × Nat × Ex × Nat)} {p e : Nat}, ChainC tg c0 c1 ko0 ar0 ch0 ps p e → p ≤ e
  | [], p, e, h => Nat.le_of_eq h
  | (c, q, r, u) :: cs, p, e, h => by
    have := ChainC.le h.2.2.2.2.2.2.2.2
    have := h.2.1
    have := h.2.2.2.2.2.1
    omega
def ca_ex (ps : List (Ex × Nat × Ex × Nat)) : List (Ex × Ex) := ps.map fun x => (x.1, x.2.2.1)
section Chains3
variable {z : State} {l : Launch} {d : Nat} {σ : Hp} {ad : Nat → Nat} {Q : Outcome → Hp → Prop} {op sg : Nat → Nat} {aO aS mO mS : Nat} {ko : Nat → Nat} {len : Nat} {S0 : Nat → Va} {t : Nat} {kn : Nat → Int32} {w0 : Wd}
theorem rw_ca_tail {me : Ex} {pe e c0 c1 : Nat} {ko0 : Nat → Nat} {ar0 : Nat → Int64} {ch0 : Nat → Int32} (h8 : 8 ≤ t) (hr : rg_ok kn S0) (he : e ≤ 1000) (hel : e < len) (h34 : ko0 e = 34) (re : RepW me pe e c0 c1 ko0 ar0 ch0) (hpe : pe ≤ e) :
    ∀ (ps : List (Ex × Nat × Ex × Nat)) (p : Nat) (w : Wd) (S : Nat → Va), ChainC e c0 c1 ko0 ar0 ch0 ps p pe → KP z σ ad op sg aO aS mO mS ko w len → (∀ j, p ≤ j → j ≤ e → ko j = ko0 j ∧ w.eJ 10 j = ar0 j) → (∀ j, c0 ≤ j → j < c1 → w.eI 11 j = ch0 j) → KF w0 w → KS w S t 0 → (∀ s, s ≤ t → S s = S0 s) → t + wdl (ca_parts me (ca_ex ps)) ≤ 250 →
      (∀ m ∈ ca_parts me (ca_ex ps), (m.1 kn).1 = 0) →
      ((ev_ca me (ca_ex ps) (rg S0)).1 = 0 → ∀ w' S', KF w0 w' → KS w' S' (t + 1) 0 → (∀ s, s ≤ t → S' s = S0 s) → S' (t + 1) = (ev_ca me (ca_ex ps) (rg S0)).2 → HD z l d σ ad Q w' (e + 1)) →
      (¬ (ev_ca me (ca_ex ps) (rg S0)).1 = 0 → ∀ w' S' t', KF w0 w' → KS w' S' t' (ev_ca me (ca_ex ps) (rg S0)).1 → (∀ s, s ≤ 8 → S' s = S0 s) → Q (.returned (some (.int (ev_ca me (ca_ex ps) (rg S0)).1))) (ov σ ad 21 w')) →
      HD z l d σ ad Q w p := by
  intro ps
  induction ps with
  | nil =>
    intro p w S hC hp hj hc hf hS lo ht hms ok er
    have hpp : p = pe := hC
    subst hpp
    have ht' : t + max (max me.2.2 1) 1 ≤ 250 := ht
    have eR := rg_eq h8 lo
    have ok' : (me.2.1 (rg S0)).1 = 0 → ∀ w' S', KF w0 w' → KS w' S' (t + 1) 0 → (∀ s, s ≤ t → S' s = S0 s) → S' (t + 1) = (me.2.1 (rg S0)).2 → HD z l d σ ad Q w' (e + 1) := ok
    have er' : ¬ (me.2.1 (rg S0)).1 = 0 → ∀ w' S' t', KF w0 w' → KS w' S' t' (me.2.1 (rg S0)).1 → (∀ s, s ≤ 8 → S' s = S0 s) → Q (.returned (some (.int (me.2.1 (rg S0)).1))) (ov σ ad 21 w') := er
    refine re z l d σ ad Q op sg aO aS mO mS ko w len S t kn hp (by omega) (fun j a1 a2 => hj j a1 (by omega)) hc hS h8 (by omega) (hr.mv h8 lo) (hms me List.mem_cons_self) (fun e1 w1 S1 f1 hS1 u1 u2 => ?_) (fun e1 w1 S1 t' f1 hS1 u1 => ?_)
    · rw [eR] at e1 u2
      obtain ⟨g1, g2⟩ := hj e hpe (Nat.le_refl _)
      exact ks_case (t := t + 1) (hp.kf f1) hS1 (by omega) (by omega) hel (g1.trans h34) (ok' e1 w1 S1 (hf.trans f1) hS1 (fun s hs => (u1 s hs).trans (lo s hs)) u2)
    · rw [eR] at e1 hS1 ⊢
      exact er' e1 w1 S1 t' (hf.trans f1) hS1 (fun s hs => (u1 s hs).trans (lo s (by omega)))
  | cons x cs ih =>
    obtain ⟨c, q, r, u⟩ := x
    intro p w S hC hp hj hc hf hS lo ht hms ok er
    obtain ⟨rc, hpq, hk1, hk2, rr, hqu, hk3, hk4, hCr⟩ := hC
    have hue := hCr.le
    have ht' : t + max (max c.2.2 1) (max (max r.2.2 1) (wdl (ca_parts me (ca_ex cs)))) ≤ 250 := ht
    have kc := hms c List.mem_cons_self
    have kr := hms r (List.mem_cons_of_mem _ List.mem_cons_self)
    have eR := rg_eq h8 lo
    have hev : ev_ca me (ca_ex ((c, q, r, u) :: cs)) (rg S0) = if ¬ (c.2.1 (rg S0)).1 = 0 then c.2.1 (rg S0) else if v_tr 1 (c.2.1 (rg S0)).2 then r.2.1 (rg S0) else ev_ca me (ca_ex cs) (rg S0) := rfl
    refine rc z l d σ ad Q op sg aO aS mO mS ko w len S t kn hp (by omega) (fun j a1 a2 => hj j a1 (by omega)) hc hS h8 (by omega) (hr.mv h8 lo) kc (fun e1 w1 S1 f1 hS1 u1 u2 => ?_) (fun e1 w1 S1 t' f1 hS1 u1 => ?_)
    · rw [eR] at e1 u2
      rw [hev, if_neg (fun q => q e1)] at ok er
      have hp1 := hp.kf f1
      obtain ⟨g1, g2⟩ := hj q (by omega) (by omega)
      obtain ⟨g3, g4⟩ := hj u (by omega) (by omega)
      have lo1 : ∀ s, s ≤ t → S1 s = S0 s := fun s hs => (u1 s (by omega)).trans (lo s hs)
      have eR1 := rg_eq h8 lo1
      refine ks_when (t := t + 1) hp1 hS1 (by omega) (by omega) (by omega) (g1.trans hk1) (tg := u) (by rw [f1.2.2.2.2.1 10 (by decide), g2, hk2]) (by omega) (by omega) (fun hv w2 f2 hS2 => ?_) (fun hv w2 f2 hS2 => ?_)
      · have hv' : v_tr 1 (c.2.1 (rg S0)).2 := by rw [← u2]; exact hv
        rw [if_pos hv'] at ok er
        have f12 := f1.trans f2
        refine rr z l d σ ad Q op sg aO aS mO mS ko w2 len S1 t kn (hp.kf f12) (by omega) (fun j a1 a2 => ?_) (fun j a1 a2 => ?_) hS2 h8 (by omega) (hr.mv h8 lo1) kr (fun e2 w3 S3 f3 hS3 v1 v2 => ?_) (fun e2 w3 S3 t' f3 hS3 v1 => ?_)
        · rw [f12.2.2.2.2.1 10 (by decide)]; exact hj j (by omega) (by omega)
        · rw [f12.2.2.2.1 11 (by decide) (by decide) (by decide)]; exact hc j a1 a2
        · rw [eR1] at e2 v2
          have f13 := f12.trans f3
          exact ks_then (t := t + 1) (hp.kf f13) hS3 (by omega) (by omega) (by omega) (g3.trans hk3) (tg := e) (by rw [f13.2.2.2.2.1 10 (by decide), g4, hk4]) (by omega) he (ok e2 w3 S3 (hf.trans f13) hS3 (fun s hs => (v1 s hs).trans (lo1 s hs)) v2)
        · rw [eR1] at e2 hS3 ⊢
          exact er e2 w3 S3 t' (hf.trans (f12.trans f3)) hS3 (fun s hs => (v1 s hs).trans (lo1 s (by omega)))
      · have hv' : ¬ v_tr 1 (c.2.1 (rg S0)).2 := by rw [← u2]; exact hv
        rw [if_neg hv'] at ok er
        have f12 := f1.trans f2
        refine ih (u + 1) w2 S1 hCr (hp.kf f12) (fun j a1 a2 => ?_) (fun j a1 a2 => ?_) (hf.trans f12) hS2 lo1 (by omega) (fun m hm => hms m (List.mem_cons_of_mem _ (List.mem_cons_of_mem _ hm))) ok er
        · rw [f12.2.2.2.2.1 10 (by decide)]; exact hj j (by omega) a2
        · rw [f12.2.2.2.1 11 (by decide) (by decide) (by decide)]; exact hc j a1 a2
    · rw [eR] at e1 hS1 ⊢
      rw [hev, if_pos e1] at er
      exact er e1 w1 S1 t' (hf.trans f1) hS1 (fun s hs => (u1 s hs).trans (lo s (by omega)))
end Chains3
theorem rw_case {ps : List (Ex × Nat × Ex × Nat)} {me : Ex} {a pe e c0 c1 : Nat} {ko0 : Nat → Nat} {ar0 : Nat → Int64} {ch0 : Nat → Int32} (hC : ChainC e c0 c1 ko0 ar0 ch0 ps a pe) (re : RepW me pe e c0 c1 ko0 ar0 ch0) (hpe : pe ≤ e) (he : e ≤ 1000) (h2 : ko0 e = 34) : RepW (ex_case (ca_ex ps) me) a (e + 1) c0 c1 ko0 ar0 ch0 := by
  intro z l d σ ad Q op sg aO aS mO mS ko w len S t kn hp hb hj hc hS h8 ht hr hk ok er
  obtain ⟨k1, k2⟩ := ckn_ok hk
  exact rw_ca_tail (w0 := w) (S0 := S) h8 hr he (by omega) h2 re hpe ps a w S hC hp (fun j a1 a2 => hj j a1 (by omega)) hc (KF.refl w) hS (fun _ _ => rfl) ht k1 ok er
