/-! ===== the worker's steps, each from head to head ===== -/
def KP (z : State) (σ : Hp) (ad op sg : Nat → Nat) (aO aS mO mS : Nat) (ko : Nat → Nat) (w : Wd) (len : Nat) : Prop := CW z σ ad ∧ gj_St z op sg aO aS mO mS ∧ CLk w ad ∧ RO w op ko ∧ w.I 8 19 = nI len ∧ len ≤ 1000
theorem KP.kf {z : State} {σ : Hp} {ad op sg : Nat → Nat} {aO aS mO mS : Nat} {ko : Nat → Nat} {w w' : Wd} {len : Nat} (h : KP z σ ad op sg aO aS mO mS ko w len) (hf : KF w w') : KP z σ ad op sg aO aS mO mS ko w' len :=
  ⟨h.1, h.2.1, hf.link h.2.2.1, hf.ro h.2.2.2.1, (hf.1 8 19 (by decide)).trans h.2.2.2.2.1, h.2.2.2.2.2⟩
section ClSteps2
variable {z : State} {l : Launch} {d : Nat} {σ : Hp} {ad : Nat → Nat} {w : Wd} {S : Nat → Va} {Q : Outcome → Hp → Prop} {op sg : Nat → Nat} {aO aS mO mS : Nat} {ko : Nat → Nat} {len at_ t : Nat} {a : Int64}
theorem ks_int (hp : KP z σ ad op sg aO aS mO mS ko w len) (hS : KS w S t 0) (h8 : 8 ≤ t) (ht : t < 250) (hat : at_ < len) (ho : ko at_ = 1) (ha : w.eJ 10 at_ = a) (k : ∀ w', KF w w' → KS w' (va_up S (t + 1) (0, a, [])) (t + 1) 0 → HD z l d σ ad Q w' (at_ + 1)) : HD z l d σ ad Q w at_ := by
  obtain ⟨hc, hs, hl, hro, hlen, hle⟩ := hp
  refine kh_jump (tg := 0) hc hs hl hro hlen hle hat hS.2.2 ho (by decide) (by decide) ha (fun Q' k0 _ => ?_)
  refine cs_K_jumps_o1 (d := d + 10) hc hs ?_
  rw [hS.2.1, k_push ht]
  have i1 : vp_in ((w.setI 20 37 (nI (t + 1))).I 20 37) 251 := vp_in_nI (by omega) (by omega)
  have hl' := (kf_t w (nI (t + 1))).link hl
  have e1 : ((w.setI 20 37 (nI (t + 1))).I 20 37).toNatClampNeg = t + 1 := nI_clamp (by omega)
  refine cs_K_putPushed_o1 (d := d + 9) hc hs hl' i1 i1 (fun _ => gj_nextV (cs_K_jumps_111 (d := d + 10) (v1 := 1) hc hs (k0 _ (k _ ?_ ?_))))
  · exact (kf_t w _).trans ((sf_4 _ _).trans (sf_5 _ _)).kf
  · rw [e1]
    exact (hS.top (t' := t + 1)).sf ((sf_4 _ _).trans (sf_5 _ _)) (SLS.num (w := w.setI 20 37 (nI (t + 1))) hS.1 (t + 1) (Or.inl ⟨rfl, rfl⟩))
theorem ks_boolc (hp : KP z σ ad op sg aO aS mO mS ko w len) (hS : KS w S t 0) (h8 : 8 ≤ t) (ht : t < 250) (hat : at_ < len) (ho : ko at_ = 3) (ha : w.eJ 10 at_ = a) (hb : a = 0 ∨ a = 1) (k : ∀ w', KF w w' → KS w' (va_up S (t + 1) (2, a, [])) (t + 1) 0 → HD z l d σ ad Q w' (at_ + 1)) : HD z l d σ ad Q w at_ := by
  obtain ⟨hc, hs, hl, hro, hlen, hle⟩ := hp
  refine kh_jump (tg := 0) hc hs hl hro hlen hle hat hS.2.2 ho (by decide) (by decide) ha (fun Q' k0 _ => ?_)
  refine cs_K_jumps_o3 (d := d + 10) hc hs ?_
  rw [hS.2.1, k_push ht]
  have i1 : vp_in ((w.setI 20 37 (nI (t + 1))).I 20 37) 251 := vp_in_nI (by omega) (by omega)
  have hl' := (kf_t w (nI (t + 1))).link hl
  have e1 : ((w.setI 20 37 (nI (t + 1))).I 20 37).toNatClampNeg = t + 1 := nI_clamp (by omega)
  refine cs_K_putPushed_o3 (d := d + 9) hc hs hl' i1 i1 (fun _ => gj_nextV (cs_K_jumps_111 (d := d + 10) (v1 := 3) hc hs (k0 _ (k _ ?_ ?_))))
  · exact (kf_t w _).trans ((sf_4 _ _).trans (sf_5 _ _)).kf
  · rw [e1]
    exact (hS.top (t' := t + 1)).sf ((sf_4 _ _).trans (sf_5 _ _)) (SLS.num (w := w.setI 20 37 (nI (t + 1))) hS.1 (t + 1) (v_ok_bool hb))
theorem ks_null (hp : KP z σ ad op sg aO aS mO mS ko w len) (hS : KS w S t 0) (h8 : 8 ≤ t) (ht : t < 250) (hat : at_ < len) (ho : ko at_ = 4) (ha : w.eJ 10 at_ = a) (k : ∀ w', KF w w' → KS w' (va_up S (t + 1) (3, 0, [])) (t + 1) 0 → HD z l d σ ad Q w' (at_ + 1)) : HD z l d σ ad Q w at_ := by
  obtain ⟨hc, hs, hl, hro, hlen, hle⟩ := hp
  refine kh_jump (tg := 0) hc hs hl hro hlen hle hat hS.2.2 ho (by decide) (by decide) ha (fun Q' k0 _ => ?_)
  refine cs_K_jumps_o4 (d := d + 10) hc hs ?_
  rw [hS.2.1, k_push ht]
  have i1 : vp_in ((w.setI 20 37 (nI (t + 1))).I 20 37) 251 := vp_in_nI (by omega) (by omega)
  have hl' := (kf_t w (nI (t + 1))).link hl
  have e1 : ((w.setI 20 37 (nI (t + 1))).I 20 37).toNatClampNeg = t + 1 := nI_clamp (by omega)
  refine cs_K_putPushed_o4 (d := d + 9) hc hs hl' i1 i1 (fun _ => gj_nextV (cs_K_jumps_111 (d := d + 10) (v1 := 4) hc hs (k0 _ (k _ ?_ ?_))))
  · exact (kf_t w _).trans ((sf_4 _ _).trans (sf_5 _ _)).kf
  · rw [e1]
    exact (hS.top (t' := t + 1)).sf ((sf_4 _ _).trans (sf_5 _ _)) (SLS.num (w := w.setI 20 37 (nI (t + 1))) hS.1 (t + 1) v_ok_null)
theorem ks_inleft (hp : KP z σ ad op sg aO aS mO mS ko w len) (hS : KS w S t 0) (h8 : 8 ≤ t) (ht : t < 250) (hat : at_ < len) (ho : ko at_ = 8) (ha : w.eJ 10 at_ = a) (k : ∀ w', KF w w' → KS w' (va_up S (t + 1) (2, 0, [])) (t + 1) 0 → HD z l d σ ad Q w' (at_ + 1)) : HD z l d σ ad Q w at_ := by
  obtain ⟨hc, hs, hl, hro, hlen, hle⟩ := hp
  refine kh_jump (tg := 0) hc hs hl hro hlen hle hat hS.2.2 ho (by decide) (by decide) ha (fun Q' k0 _ => ?_)
  refine cs_K_jumps_o8 (d := d + 10) hc hs ?_
  rw [hS.2.1, k_push ht]
  have i1 : vp_in ((w.setI 20 37 (nI (t + 1))).I 20 37) 251 := vp_in_nI (by omega) (by omega)
  have hl' := (kf_t w (nI (t + 1))).link hl
  have e1 : ((w.setI 20 37 (nI (t + 1))).I 20 37).toNatClampNeg = t + 1 := nI_clamp (by omega)
  refine cs_K_putPushed_o8 (d := d + 9) hc hs hl' i1 i1 (fun _ => gj_nextV (cs_K_jumps_111 (d := d + 10) (v1 := 8) hc hs (k0 _ (k _ ?_ ?_))))
  · exact (kf_t w _).trans ((sf_4 _ _).trans (sf_5 _ _)).kf
  · rw [e1]
    exact (hS.top (t' := t + 1)).sf ((sf_4 _ _).trans (sf_5 _ _)) (SLS.num (w := w.setI 20 37 (nI (t + 1))) hS.1 (t + 1) (v_ok_bool (Or.inl rfl)))
theorem ks_text (hp : KP z σ ad op sg aO aS mO mS ko w len) (hS : KS w S t 0) (h8 : 8 ≤ t) (ht : t < 250) (hat : at_ < len) (ho : ko at_ = 2) {hd n : Nat} (ha : w.eJ 10 at_ = lN hd) (h1 : hd + 1 + n ≤ 1000) (hn : n ≤ 40) (hb : w.eI 11 hd = nI n) (hch : ∀ i, i < n → ch_ok (w.eI 11 (hd + 1 + i))) (k : ∀ w', KF w w' → KS w' (va_up S (t + 1) (1, lN n, rowT (w.eI 11) (hd + 1) n)) (t + 1) 0 → HD z l d σ ad Q w' (at_ + 1)) : HD z l d σ ad Q w at_ := by
  obtain ⟨hc, hs, hl, hro, hlen, hle⟩ := hp
  refine kh_jump (tg := 0) hc hs hl hro hlen hle hat hS.2.2 ho (by decide) (by decide) ha (fun Q' k0 _ => ?_)
  refine cs_K_jumps_o2 (d := d + 10) hc hs ?_
  rw [hS.2.1, k_push ht]
  have hl' := (kf_t w (nI (t + 1))).link hl
  refine cs_K_putPushed_o2 (d := d + 9) hc hs hl' (by rw [lN_i]; exact vp_in_nI (by omega) (by omega)) ?_
  rw [lN_i, nI_1, nI_clamp (n := hd) (by omega), show (w.setI 20 37 (nI (t + 1))).eI 11 hd = nI n from hb]
  refine cl_putText_11 (d := d + 8) (w := w.setI 20 37 (nI (t + 1))) (s := t + 1) hc hl' hS.1 (by omega) h1 hn hch (fun w' hf hS' _ => gj_nextV (cs_K_putPushed_134 (d := d + 9) (v1 := 2) hc hs (fun _ => gj_nextV (cs_K_jumps_111 (d := d + 10) (v1 := 2) hc hs (k0 _ (k _ ?_ ?_))))))
  · exact (kf_t w _).trans hf.kf
  · exact (hS.top (t' := t + 1)).sf hf hS' 
theorem ks_reg (hp : KP z σ ad op sg aO aS mO mS ko w len) (hS : KS w S t 0) (h8 : 8 ≤ t) (ht : t < 250) (hat : at_ < len) (ho : ko at_ = 5) {r : Nat} (hr : r < 8) (ha : w.eJ 10 at_ = lN r) (k : ∀ w', KF w w' → KS w' (va_up S (t + 1) (S r)) (t + 1) 0 → HD z l d σ ad Q w' (at_ + 1)) : HD z l d σ ad Q w at_ := by
  obtain ⟨hc, hs, hl, hro, hlen, hle⟩ := hp
  refine kh_jump (tg := 0) hc hs hl hro hlen hle hat hS.2.2 ho (by decide) (by decide) ha (fun Q' k0 _ => ?_)
  refine cs_K_jumps_o5 (d := d + 10) hc hs ?_
  rw [hS.2.1, k_push ht]
  have hl' := (kf_t w (nI (t + 1))).link hl
  refine cs_K_putPushed_o5 (d := d + 9) hc hs hl' ?_
  rw [lN_i]
  refine cl_copy (d := d + 8) (w := w.setI 20 37 (nI (t + 1))) (s := r) (t := t + 1) hc hl' hS.1 (by omega) (by omega) (fun w' hf hS' _ => gj_nextV (cs_K_putPushed_150 (d := d + 9) (v1 := 5) hc hs (fun _ => gj_nextV (cs_K_jumps_111 (d := d + 10) (v1 := 5) hc hs (k0 _ (k _ ?_ ?_))))))
  · exact (kf_t w _).trans hf.kf
  · exact (hS.top (t' := t + 1)).sf hf hS' 
theorem ks_orleft (hp : KP z σ ad op sg aO aS mO mS ko w len) (hS : KS w S t 0) (h8 : 8 ≤ t) (ht : t < 251) (hat : at_ < len) (ho : ko at_ = 6) {tg : Nat} (ha : w.eJ 10 at_ = lN tg) (h1 : at_ ≤ tg) (h2 : tg ≤ 1000) (ky : v_tr 1 (S t) → HD z l d σ ad Q w (tg + 1)) (kn : ¬ v_tr 1 (S t) → HD z l d σ ad Q w (at_ + 1)) : HD z l d σ ad Q w at_ := by
  obtain ⟨hc, hs, hl, hro, hlen, hle⟩ := hp
  obtain ⟨⟨a1, a2, a3⟩, a4⟩ := hS.1 t (by omega)
  refine kh_jump (tg := tg) hc hs hl hro hlen hle hat hS.2.2 ho (by decide) (by decide) ha (fun Q' k0 k1 => ?_)
  have i1 : vp_in (w.I 20 37) 251 := by rw [hS.2.1]; exact vp_in_nI (by omega) (by omega)
  have e1 : (w.I 20 37).toNatClampNeg = t := by rw [hS.2.1]; exact nI_clamp (by omega)
  refine cs_K_jumps_o6 (d := d + 10) hc hs hl i1 (fun h => ?_) (fun _ => i1) (fun h h3 => ?_) (fun h h3 => ?_)
  · rw [e1, a1] at h
    exact k0 _ (kn (fun q => h q.1))
  · rw [e1, a2, lg_cmp_eq] at h3
    exact k0 _ (kn (fun q => h3 q.2))
  · rw [e1, a1] at h
    rw [e1, a2, lg_cmp_eq] at h3
    exact k1 _ (lN_i tg) h1 h2 (ky ⟨h, h3⟩)
theorem ks_andleft (hp : KP z σ ad op sg aO aS mO mS ko w len) (hS : KS w S t 0) (h8 : 8 ≤ t) (ht : t < 251) (hat : at_ < len) (ho : ko at_ = 7) {tg : Nat} (ha : w.eJ 10 at_ = lN tg) (h1 : at_ ≤ tg) (h2 : tg ≤ 1000) (ky : v_tr 0 (S t) → HD z l d σ ad Q w (tg + 1)) (kn : ¬ v_tr 0 (S t) → HD z l d σ ad Q w (at_ + 1)) : HD z l d σ ad Q w at_ := by
  obtain ⟨hc, hs, hl, hro, hlen, hle⟩ := hp
  obtain ⟨⟨a1, a2, a3⟩, a4⟩ := hS.1 t (by omega)
  refine kh_jump (tg := tg) hc hs hl hro hlen hle hat hS.2.2 ho (by decide) (by decide) ha (fun Q' k0 k1 => ?_)
  have i1 : vp_in (w.I 20 37) 251 := by rw [hS.2.1]; exact vp_in_nI (by omega) (by omega)
  have e1 : (w.I 20 37).toNatClampNeg = t := by rw [hS.2.1]; exact nI_clamp (by omega)
  refine cs_K_jumps_o7 (d := d + 10) hc hs hl i1 (fun h => ?_) (fun _ => i1) (fun h h3 => ?_) (fun h h3 => ?_)
  · rw [e1, a1] at h
    exact k0 _ (kn (fun q => h q.1))
  · rw [e1, a2, lg_cmp_eq] at h3
    exact k0 _ (kn (fun q => h3 q.2))
  · rw [e1, a1] at h
    rw [e1, a2, lg_cmp_eq] at h3
    exact k1 _ (lN_i tg) h1 h2 (ky ⟨h, h3⟩)
theorem ks_then (hp : KP z σ ad op sg aO aS mO mS ko w len) (hS : KS w S t 0) (h8 : 8 ≤ t) (ht : t < 251) (hat : at_ < len) (ho : ko at_ = 12) {tg : Nat} (ha : w.eJ 10 at_ = lN tg) (h1 : at_ ≤ tg) (h2 : tg ≤ 1000) (k : HD z l d σ ad Q w (tg + 1)) : HD z l d σ ad Q w at_ := by
  obtain ⟨hc, hs, hl, hro, hlen, hle⟩ := hp
  exact kh_jump (tg := tg) hc hs hl hro hlen hle hat hS.2.2 ho (by decide) (by decide) ha (fun Q' k0 k1 => cs_K_jumps_o12 (d := d + 10) hc hs (k1 _ (lN_i tg) h1 h2 k))
theorem nbb (b : Bool) : narrow .boolean (.int (b2i b)) = .int (b2i b) := by cases b <;> decide +kernel
theorem ks_when (hp : KP z σ ad op sg aO aS mO mS ko w len) (hS : KS w S t 0) (h8 : 9 ≤ t) (ht : t < 251) (hat : at_ < len) (ho : ko at_ = 11) {tg : Nat} (ha : w.eJ 10 at_ = lN tg) (h1 : at_ ≤ tg) (h2 : tg ≤ 1000) (ky : v_tr 1 (S t) → ∀ w', KF w w' → KS w' S (t - 1) 0 → HD z l d σ ad Q w' (at_ + 1)) (kn : ¬ v_tr 1 (S t) → ∀ w', KF w w' → KS w' S (t - 1) 0 → HD z l d σ ad Q w' (tg + 1)) : HD z l d σ ad Q w at_ := by
  obtain ⟨hc, hs, hl, hro, hlen, hle⟩ := hp
  obtain ⟨⟨a1, a2, a3⟩, a4⟩ := hS.1 t (by omega)
  refine kh_jump (tg := tg) hc hs hl hro hlen hle hat hS.2.2 ho (by decide) (by decide) ha (fun Q' k0 k1 => ?_)
  have i1 : vp_in (w.I 20 37) 251 := by rw [hS.2.1]; exact vp_in_nI (by omega) (by omega)
  have e1 : (w.I 20 37).toNatClampNeg = t := by rw [hS.2.1]; exact nI_clamp (by omega)
  have e2 : (if w.I 20 37 - 1 < 8 then 8 else w.I 20 37 - 1) = nI (t - 1) := by rw [hS.2.1]; exact k_drop (n := 1) (by omega) (by omega)
  have hS' := hS.top (t' := t - 1)
  refine cs_K_jumps_o11 (d := d + 10) hc hs ?_
  refine cs_K_refusesWhen (d := d + 9) hc hl i1 (fun h _ => ?_) (fun _ => i1) (fun h h3 _ => ?_) (fun h h3 _ => ?_)
  · rw [e1, a1] at h
    rw [e2]
    exact gj_nextI (cs_K_jumps_92 (d := d + 10) (v1 := 11) hc hs (nbb true) (k1 _ (lN_i tg) h1 h2 (kn (fun q => h q.1) _ (kf_t _ _) hS')))
  · rw [e1, a2, lg_cmp_eq] at h3
    rw [e2]
    exact gj_nextI (cs_K_jumps_92 (d := d + 10) (v1 := 11) hc hs (nbb true) (k1 _ (lN_i tg) h1 h2 (kn (fun q => h3 q.2) _ (kf_t _ _) hS')))
  · rw [e1, a1] at h
    rw [e1, a2, lg_cmp_eq] at h3
    rw [e2]
    exact gj_nextI (cs_K_jumps_92 (d := d + 10) (v1 := 11) hc hs (nbb false) (k0 _ (ky ⟨h, h3⟩ _ (kf_t _ _) hS')))
theorem ks_coal (hp : KP z σ ad op sg aO aS mO mS ko w len) (hS : KS w S t 0) (h8 : 9 ≤ t) (ht : t < 251) (hat : at_ < len) (ho : ko at_ = 13) {tg : Nat} (ha : w.eJ 10 at_ = lN tg) (h1 : at_ ≤ tg) (h2 : tg ≤ 1000) (ky : (S t).1 = 3 → ∀ w', KF w w' → KS w' S (t - 1) 0 → HD z l d σ ad Q w' (at_ + 1)) (kn : ¬ (S t).1 = 3 → HD z l d σ ad Q w (tg + 1)) : HD z l d σ ad Q w at_ := by
  obtain ⟨hc, hs, hl, hro, hlen, hle⟩ := hp
  obtain ⟨⟨a1, a2, a3⟩, a4⟩ := hS.1 t (by omega)
  refine kh_jump (tg := tg) hc hs hl hro hlen hle hat hS.2.2 ho (by decide) (by decide) ha (fun Q' k0 k1 => ?_)
  have i1 : vp_in (w.I 20 37) 251 := by rw [hS.2.1]; exact vp_in_nI (by omega) (by omega)
  have e1 : (w.I 20 37).toNatClampNeg = t := by rw [hS.2.1]; exact nI_clamp (by omega)
  have e2 : (if w.I 20 37 - 1 < 8 then 8 else w.I 20 37 - 1) = nI (t - 1) := by rw [hS.2.1]; exact k_drop (n := 1) (by omega) (by omega)
  refine cs_K_jumps_o13 (d := d + 10) hc hs ?_
  refine cs_K_endsCoalesce (d := d + 9) hc hl i1 (fun h _ => ?_) (fun h _ => ?_)
  · rw [e1, a1] at h
    exact gj_nextI (cs_K_jumps_99 (d := d + 10) (v1 := 13) hc hs (nbb true) (k1 _ (lN_i tg) h1 h2 (kn h)))
  · rw [e1, a1] at h
    rw [e2]
    exact gj_nextI (cs_K_jumps_99 (d := d + 10) (v1 := 13) hc hs (nbb false) (k0 _ (ky h _ (kf_t _ _) (hS.top (t' := t - 1)))))
theorem ks_or (hp : KP z σ ad op sg aO aS mO mS ko w len) (hS : KS w S t 0) (h8 : 9 ≤ t) (ht : t < 251) (hat : at_ < len) (ho : ko at_ = 14) (k : ∀ w', KF w w' → KS w' (va_up S (t - 1) (v_dec 1 (S (t - 1)) (S t))) (t - 1) 0 → HD z l d σ ad Q w' (at_ + 1)) : HD z l d σ ad Q w at_ := by
  obtain ⟨hc, hs, hl, hro, hlen, hle⟩ := hp
  refine kh_close hc hs hl hro hlen hle hat hS.2.2 ho (by decide) (by decide) (fun Q' k0 => ?_)
  refine cs_K_close_o14 (d := d + 10) hc hs ?_
  rw [hS.2.1, show nI t - 1 = nI (t - 1) from pk_sub (b := 1) (by omega)]
  refine kd_putDecided (d := d + 9) hc hl hS.1 (by omega) (by omega) (by decide) (fun w' hf hS' _ => gj_nextV (cs_K_close_121 (d := d + 10) (v1 := 14) hc hs ?_))
  have hk := hS.sf hf hS'
  rw [hk.2.1, show (if nI t - 1 < 8 then 8 else nI t - 1) = nI (t - 1) from k_drop (n := 1) (by omega) (by omega)]
  exact k0 _ (k _ (hf.kf.trans (kf_t _ _)) hk.top)
theorem ks_and (hp : KP z σ ad op sg aO aS mO mS ko w len) (hS : KS w S t 0) (h8 : 9 ≤ t) (ht : t < 251) (hat : at_ < len) (ho : ko at_ = 15) (k : ∀ w', KF w w' → KS w' (va_up S (t - 1) (v_dec 0 (S (t - 1)) (S t))) (t - 1) 0 → HD z l d σ ad Q w' (at_ + 1)) : HD z l d σ ad Q w at_ := by
  obtain ⟨hc, hs, hl, hro, hlen, hle⟩ := hp
  refine kh_close hc hs hl hro hlen hle hat hS.2.2 ho (by decide) (by decide) (fun Q' k0 => ?_)
  refine cs_K_close_o15 (d := d + 10) hc hs ?_
  rw [hS.2.1, show nI t - 1 = nI (t - 1) from pk_sub (b := 1) (by omega)]
  refine kd_putDecided (d := d + 9) hc hl hS.1 (by omega) (by omega) (by decide) (fun w' hf hS' _ => gj_nextV (cs_K_close_138 (d := d + 10) (v1 := 15) hc hs ?_))
  have hk := hS.sf hf hS'
  rw [hk.2.1, show (if nI t - 1 < 8 then 8 else nI t - 1) = nI (t - 1) from k_drop (n := 1) (by omega) (by omega)]
  exact k0 _ (k _ (hf.kf.trans (kf_t _ _)) hk.top)
theorem ks_isnull (hp : KP z σ ad op sg aO aS mO mS ko w len) (hS : KS w S t 0) (h8 : 8 ≤ t) (ht : t < 251) (hat : at_ < len) (ho : ko at_ = 17) (k : ∀ w', KF w w' → KS w' (va_up S t (v_bool (decide ((S t).1 = 3)))) t 0 → HD z l d σ ad Q w' (at_ + 1)) : HD z l d σ ad Q w at_ := by
  obtain ⟨hc, hs, hl, hro, hlen, hle⟩ := hp
  obtain ⟨⟨a1, a2, a3⟩, a4⟩ := hS.1 t (by omega)
  have i1 : vp_in (w.I 20 37) 251 := by rw [hS.2.1]; exact vp_in_nI (by omega) (by omega)
  have e1 : (w.I 20 37).toNatClampNeg = t := by rw [hS.2.1]; exact nI_clamp (by omega)
  refine kh_close hc hs hl hro hlen hle hat hS.2.2 ho (by decide) (by decide) (fun Q' k0 => ?_)
  refine cs_K_close_o17 (d := d + 10) hc hs hl i1 (fun _ => i1) (fun h => ?_) (fun _ => i1) (fun h => ?_)
  · rw [e1, a1] at h
    rw [e1]
    refine k0 _ (k _ ((sf_4 _ _).trans (sf_5 _ _)).kf (hS.sf ((sf_4 _ _).trans (sf_5 _ _)) ?_))
    rw [decide_eq_false h]
    exact hS.1.num t (v_ok_bool (Or.inl rfl))
  · rw [e1, a1] at h
    rw [e1]
    refine k0 _ (k _ ((sf_4 _ _).trans (sf_5 _ _)).kf (hS.sf ((sf_4 _ _).trans (sf_5 _ _)) ?_))
    rw [decide_eq_true h]
    exact hS.1.num t (v_ok_bool (Or.inr rfl))
theorem ks_in (hp : KP z σ ad op sg aO aS mO mS ko w len) (hS : KS w S t 0) (h8 : 9 ≤ t) (ht : t < 251) (hat : at_ < len) (ho : ko at_ = 18) (k : ∀ w', KF w w' → KS w' (va_up S (t - 1) (S t)) (t - 1) 0 → HD z l d σ ad Q w' (at_ + 1)) : HD z l d σ ad Q w at_ := by
  obtain ⟨hc, hs, hl, hro, hlen, hle⟩ := hp
  refine kh_close hc hs hl hro hlen hle hat hS.2.2 ho (by decide) (by decide) (fun Q' k0 => ?_)
  refine cs_K_close_o18 (d := d + 10) hc hs hl ?_
  rw [hS.2.1, show nI t - 1 = nI (t - 1) from pk_sub (b := 1) (by omega)]
  refine cl_copy (d := d + 9) hc hl hS.1 (by omega) (by omega) (fun w' hf hS' _ => gj_nextV (cs_K_close_176 (d := d + 10) (v1 := 18) hc hs ?_))
  have hk := hS.sf hf hS'
  rw [hk.2.1, show (if nI t - 1 < 8 then 8 else nI t - 1) = nI (t - 1) from k_drop (n := 1) (by omega) (by omega)]
  exact k0 _ (k _ (hf.kf.trans (kf_t _ _)) hk.top)
theorem ks_case (hp : KP z σ ad op sg aO aS mO mS ko w len) (hS : KS w S t 0) (h8 : 8 ≤ t) (ht : t < 251) (hat : at_ < len) (ho : ko at_ = 34) (k : HD z l d σ ad Q w (at_ + 1)) : HD z l d σ ad Q w at_ := by
  obtain ⟨hc, hs, hl, hro, hlen, hle⟩ := hp
  exact kh_close hc hs hl hro hlen hle hat hS.2.2 ho (by decide) (by decide) (fun Q' k0 => cs_K_close_o34 (d := d + 10) hc hs (k0 _ k))
theorem ks_coalesce (hp : KP z σ ad op sg aO aS mO mS ko w len) (hS : KS w S t 0) (h8 : 8 ≤ t) (ht : t < 250) (hat : at_ < len) (ho : ko at_ = 40) (k : ∀ w', KF w w' → KS w' (va_up S (t + 1) (3, 0, [])) (t + 1) 0 → HD z l d σ ad Q w' (at_ + 1)) : HD z l d σ ad Q w at_ := by
  obtain ⟨hc, hs, hl, hro, hlen, hle⟩ := hp
  refine kh_close hc hs hl hro hlen hle hat hS.2.2 ho (by decide) (by decide) (fun Q' k0 => ?_)
  have e0 : (if 250 < w.I 20 37 + 1 then 250 else w.I 20 37 + 1) = nI (t + 1) := by rw [hS.2.1]; exact k_push ht
  have i1 : vp_in (nI (t + 1)) 251 := vp_in_nI (by omega) (by omega)
  refine cs_K_close_o40 (d := d + 10) hc hs hl (by rw [e0]; exact i1) (by rw [e0]; exact i1) ?_
  rw [e0, nI_clamp (n := t + 1) (by omega)]
  refine k0 _ (k _ ((kf_t w _).trans ((sf_4 _ _).trans (sf_5 _ _)).kf) ?_)
  exact (hS.top (t' := t + 1)).sf ((sf_4 _ _).trans (sf_5 _ _)) (SLS.num (w := w.setI 20 37 (nI (t + 1))) hS.1 (t + 1) v_ok_null)
theorem ks_between (hp : KP z σ ad op sg aO aS mO mS ko w len) (hS : KS w S t 0) (h8 : 10 ≤ t) (ht : t < 251) (hat : at_ < len) (ho : ko at_ = 19) (hk1 : v_same (S (t - 2)) (S t)) (k : ∀ w' S', KF w w' → KS w' S' (t - 2) 0 → (∀ s, s < t - 2 → S' s = S s) → S' (t - 2) = v_dec 0 (S (t - 1)) (v_le (S (t - 2)) (S t)) → HD z l d σ ad Q w' (at_ + 1)) : HD z l d σ ad Q w at_ := by
  obtain ⟨hc, hs, hl, hro, hlen, hle⟩ := hp
  refine kh_close hc hs hl hro hlen hle hat hS.2.2 ho (by decide) (by decide) (fun Q' k0 => ?_)
  refine cs_K_close_o19 (d := d + 10) hc hs ?_
  have m1 : nI t - 1 = nI (t - 1) := pk_sub (b := 1) (by omega)
  have m2 : nI t - 2 = nI (t - 2) := pk_sub (b := 2) (by omega)
  rw [hS.2.1, m2]
  refine kd_putAtMost (d := d + 7) hc hl hS.1 (by omega) (by omega) (by omega) hk1 (fun w1 hf1 hS1 _ => gj_nextV (cs_K_close_193 (d := d + 10) (v1 := 19) hc hs ?_))
  have hl1 := hf1.link hl
  rw [m1]
  refine kd_putDecided (d := d + 9) hc hl1 hS1 (by omega) (by omega) (by decide) (fun w2 hf2 hS2 _ => gj_nextV (cs_K_close_202 (d := d + 10) (v1 := 19) hc hs (hf2.link hl1) ?_))
  rw [m1, m2]
  refine cl_copy (d := d + 9) hc (hf2.link hl1) hS2 (by omega) (by omega) (fun w3 hf3 hS3 _ => gj_nextV (cs_K_close_215 (d := d + 10) (v1 := 19) hc hs ?_))
  have hk := ((hS.sf hf1 hS1).sf hf2 hS2).sf hf3 hS3
  rw [hk.2.1, show (if nI t - 2 < 8 then 8 else nI t - 2) = nI (t - 2) from k_drop (n := 2) (by omega) (by omega)]
  refine k0 _ (k _ _ (((hf1.trans hf2).trans hf3).kf.trans (kf_t _ _)) hk.top (fun s hs9 => ?_) ?_)
  · rw [va_up_ne _ _ (by omega), va_up_ne _ _ (by omega), va_up_ne _ _ (by omega)]
  · rw [va_up_self, va_up_self, va_up_self, va_up_ne _ _ (by omega)]
def v_nullif (a b : Va) : Va := if ¬ a.1 = 3 ∧ ¬ b.1 = 3 ∧ sp_cmp a b = 0 then (3, 0, []) else a
theorem ks_nullif (hp : KP z σ ad op sg aO aS mO mS ko w len) (hS : KS w S t 0) (h8 : 9 ≤ t) (ht : t < 251) (hat : at_ < len) (ho : ko at_ = 41) (hk1 : v_same (S (t - 1)) (S t)) (k : ∀ w' S', KF w w' → KS w' S' (t - 1) 0 → (∀ s, s < t - 1 → S' s = S s) → S' (t - 1) = v_nullif (S (t - 1)) (S t) → HD z l d σ ad Q w' (at_ + 1)) : HD z l d σ ad Q w at_ := by
  obtain ⟨hc, hs, hl, hro, hlen, hle⟩ := hp
  obtain ⟨⟨a1, a2, a3⟩, a4⟩ := hS.1 (t - 1) (by omega)
  obtain ⟨⟨b1, b2, b3⟩, b4⟩ := hS.1 t (by omega)
  refine kh_close hc hs hl hro hlen hle hat hS.2.2 ho (by decide) (by decide) (fun Q' k0 => ?_)
  refine cs_K_close_o41 (d := d + 10) hc hs ?_
  have m1 : nI t - 1 = nI (t - 1) := pk_sub (b := 1) (by omega)
  have e1 : (nI (t - 1)).toNatClampNeg = t - 1 := nI_clamp (by omega)
  have e2 : (nI t).toNatClampNeg = t := nI_clamp (by omega)
  have i1 : vp_in (nI (t - 1)) 251 := vp_in_nI (by omega) (by omega)
  have i2 : vp_in (nI t) 251 := vp_in_nI (by omega) (by omega)
  have e3 : (if w.I 20 37 - 1 < 8 then 8 else w.I 20 37 - 1) = nI (t - 1) := by rw [hS.2.1]; exact k_drop (n := 1) (by omega) (by omega)
  have fin : v_nullif (S (t - 1)) (S t) = S (t - 1) → Q' (.returned none) (ov σ ad 21 (w.setI 20 37 (nI (t - 1)))) := fun e => k0 _ (k _ S (kf_t _ _) hS.top (fun _ _ => rfl) e.symm)
  rw [hS.2.1, m1]
  refine cs_K_closeNullif (d := d + 9) hc hl i1 (fun _ => i2) (fun h1 h2 => ?_) (fun h1 h2 => ?_) (fun h1 => ?_)
  · rw [e1, a1] at h1
    rw [e2, b1] at h2
    have hk' : (S (t - 1)).1 = (S t).1 := hk1.elim (fun h => absurd h h1) (fun h => h.elim (fun h => absurd h h2) id)
    refine cl_compare (d := d + 7) hc hl (by omega) (by omega) ⟨a1, a2, a3⟩ ⟨b1, b2, b3⟩ a4 b4 hk' (fun r hr _ => gj_nextI (cs_K_closeNullif_31 (d := d + 9) hc hl (fun h _ => ?_) (fun _ => i1) (fun _ => i1) (fun h _ => ?_)))
    · rw [e3]
      exact gj_nextV (cs_K_close_231 (d := d + 10) (v1 := 41) hc hs (fin (by rw [v_nullif, if_neg (fun q => h ((sg_le hr).2.1.mpr q.2.2))])))
    · rw [e3, e1]
      refine gj_nextV (cs_K_close_231 (d := d + 10) (v1 := 41) hc hs (k0 _ (k _ (va_up S (t - 1) (3, 0, [])) (((sf_4 _ _).trans (sf_5 _ _)).kf.trans (kf_t _ _)) ?_ (fun s hs9 => va_up_ne _ _ (by omega)) ?_)))
      · exact (hS.sf ((sf_4 _ _).trans (sf_5 _ _)) (hS.1.num (t - 1) v_ok_null)).top
      · rw [va_up_self, v_nullif, if_pos ⟨h1, h2, (sg_le hr).2.1.mp h⟩]
  · rw [e2, b1] at h2
    intro _
    rw [e3]
    exact gj_nextV (cs_K_close_231 (d := d + 10) (v1 := 41) hc hs (fin (by rw [v_nullif, if_neg (fun q => q.2.1 h2)])))
  · rw [e1, a1] at h1
    intro _
    rw [e3]
    exact gj_nextV (cs_K_close_231 (d := d + 10) (v1 := 41) hc hs (fin (by rw [v_nullif, if_neg (fun q => q.1 h1)])))
end ClSteps2
