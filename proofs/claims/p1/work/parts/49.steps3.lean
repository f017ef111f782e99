/-! ===== IN's parts, BETWEEN's low end, strict steps ===== -/
/-- NULL among n values from f -/
def nul (S : Nat → Va) (f : Nat) : Nat → Bool
  | 0 => false
  | m + 1 => nul S f m || decide ((S (f + m)).1 = 3)
def sp_bool (o : Nat) (a b : Va) : Bool := match o with
  | 16 => decide (v_tr 0 a)
  | 20 => decide (sp_cmp a b = 0)
  | 21 => decide (¬ sp_cmp a b = 0)
  | 22 => decide (sp_cmp a b < 0)
  | 23 => decide (sp_cmp a b ≤ 0)
  | 24 => decide (¬ sp_cmp a b ≤ 0)
  | 25 => decide (¬ sp_cmp a b < 0)
  | _ => sp_like a.2.2 b.2.2
section ClSteps3
variable {z : State} {l : Launch} {d : Nat} {σ : Hp} {ad : Nat → Nat} {w : Wd} {S : Nat → Va} {Q : Outcome → Hp → Prop} {op sg : Nat → Nat} {aO aS mO mS : Nat} {ko : Nat → Nat} {len at_ t : Nat} {a : Int64}
theorem ks_inpart (hp : KP z σ ad op sg aO aS mO mS ko w len) (hS : KS w S t 0) (h8 : 11 ≤ t) (ht : t < 251) (hat : at_ < len) (ho : ko at_ = 9) {tg : Nat} (ha : w.eJ 10 at_ = lN tg) (h1 : at_ ≤ tg) (h2 : tg ≤ 1000) (hk1 : v_same (S (t - 2)) (S t))
    (k0 : (S (t - 2)).1 = 3 ∨ (S t).1 = 3 → ∀ w', KF w w' → KS w' (va_up S (t - 1) (3, 0, [])) (t - 1) 0 → HD z l d σ ad Q w' (at_ + 1))
    (k1 : ¬ (S (t - 2)).1 = 3 → ¬ (S t).1 = 3 → sp_cmp (S (t - 2)) (S t) = 0 → ∀ w', KF w w' → KS w' (va_up S (t - 2) (2, 1, [])) (t - 2) 0 → HD z l d σ ad Q w' (tg + 1))
    (k2 : ¬ (S (t - 2)).1 = 3 → ¬ (S t).1 = 3 → ¬ sp_cmp (S (t - 2)) (S t) = 0 → ∀ w', KF w w' → KS w' S (t - 1) 0 → HD z l d σ ad Q w' (at_ + 1)) : HD z l d σ ad Q w at_ := by
  obtain ⟨hc, hs, hl, hro, hlen, hle⟩ := hp
  obtain ⟨⟨a1, a2, a3⟩, a4⟩ := hS.1 (t - 2) (by omega)
  obtain ⟨⟨b1, b2, b3⟩, b4⟩ := hS.1 t (by omega)
  refine kh_jump (tg := tg) hc hs hl hro hlen hle hat hS.2.2 ho (by decide) (by decide) ha (fun Q' j0 j1 => ?_)
  refine cs_K_jumps_o9 (d := d + 10) hc hs ?_
  have eb : (if w.I 20 37 - 3 + 1 < 9 then 9 else w.I 20 37 - 3 + 1) = nI (t - 2) := by
    rw [hS.2.1, show t - 2 = t - 3 + 1 by omega]
    exact k_bot (n := 3) (by omega) (by omega)
  have e1 : (if w.I 20 37 - 1 < 8 then 8 else w.I 20 37 - 1) = nI (t - 1) := by rw [hS.2.1]; exact k_drop (n := 1) (by omega) (by omega)
  have e2 : (if w.I 20 37 - 2 < 8 then 8 else w.I 20 37 - 2) = nI (t - 2) := by rw [hS.2.1]; exact k_drop (n := 2) (by omega) (by omega)
  have p1 : nI (t - 2) + 1 = nI (t - 1) := by rw [nI_1]; congr 1; omega
  have p2 : nI (t - 2) + 2 = nI t := by rw [show (2 : Int32) = nI 2 from rfl, nI_add]; congr 1; omega
  have c0 : (nI (t - 2)).toNatClampNeg = t - 2 := nI_clamp (by omega)
  have c1 : (nI (t - 1)).toNatClampNeg = t - 1 := nI_clamp (by omega)
  have c2 : (nI t).toNatClampNeg = t := nI_clamp (by omega)
  have i0 : vp_in (nI (t - 2)) 251 := vp_in_nI (by omega) (by omega)
  have i1 : vp_in (nI (t - 1)) 251 := vp_in_nI (by omega) (by omega)
  have i2 : vp_in (nI t) 251 := vp_in_nI (by omega) (by omega)
  have fin : (S (t - 2)).1 = 3 ∨ (S t).1 = 3 → gj_next z l mt_K_jumps (d + 19) 79 [.ref (ad 20), .ref (op 9), .ref (ad 8), .long (lN tg), .retAddr 0] [] Q' (.returned (some (.int 0))) (ov σ ad 21 (((w.rowI 4 (va_up (w.eI 4) (t - 1) 3)).rowJ 5 (va_up ((w.rowI 4 (va_up (w.eI 4) (t - 1) 3)).eJ 5) (t - 1) 0)).setI 20 37 (nI (t - 1)))) := fun h =>
    gj_nextI (cs_K_jumps_82 (d := d + 10) (v1 := 9) hc hs (nbb false) (j0 _ (k0 h _ (((sf_4 _ _).trans (sf_5 _ _)).kf.trans (kf_t _ _)) (hS.sf ((sf_4 _ _).trans (sf_5 _ _)) (hS.1.num (t - 1) v_ok_null)).top)))
  refine cs_K_decidesIn (d := d + 9) hc hl ?_ ?_ ?_ ?_ ?_ ?_ ?_ ?_ ?_ <;> rw [eb]
  · exact i0
  · intro _; rw [p2]; exact i2
  · rw [p2, c0, c2, a1, b1]
    intro q1 q2
    have hk' : (S (t - 2)).1 = (S t).1 := hk1.elim (fun h => absurd h q1) (fun h => h.elim (fun h => absurd h q2) id)
    refine cl_compare (d := d + 7) hc hl (by omega) (by omega) ⟨a1, a2, a3⟩ ⟨b1, b2, b3⟩ a4 b4 hk' (fun r hr _ => gj_nextI (cs_K_decidesIn_54 (d := d + 9) hc hl (fun h _ => ?_) (fun _ => i0) (fun _ => i0) (fun h _ => ?_)))
    · rw [e1]
      exact gj_nextI (cs_K_jumps_82 (d := d + 10) (v1 := 9) hc hs (nbb false) (j0 _ (k2 q1 q2 (fun q => h ((sg_le hr).2.1.mpr q)) _ (kf_t _ _) hS.top)))
    · rw [e2, c0]
      exact gj_nextI (cs_K_jumps_82 (d := d + 10) (v1 := 9) hc hs (nbb true) (j1 _ (lN_i tg) h1 h2 (k1 q1 q2 ((sg_le hr).2.1.mp h) _ (((sf_4 _ _).trans (sf_5 _ _)).kf.trans (kf_t _ _)) (hS.sf ((sf_4 _ _).trans (sf_5 _ _)) (hS.1.num (t - 2) (v_ok_bool (Or.inr rfl)))).top)))
  · intro _ _; rw [p1]; exact i1
  · intro _ _; rw [p1]; exact i1
  · rw [p1, p2, c0, c1, c2, a1, b1, e1]
    intro _ q2 _
    exact fin (Or.inr q2)
  · intro _; rw [p1]; exact i1
  · intro _; rw [p1]; exact i1
  · rw [p1, c0, c1, a1, e1]
    intro q1 _
    exact fin (Or.inl q1)
theorem ks_betweenlow (hp : KP z σ ad op sg aO aS mO mS ko w len) (hS : KS w S t 0) (h8 : 10 ≤ t) (ht : t < 251) (hat : at_ < len) (ho : ko at_ = 10) {tg : Nat} (ha : w.eJ 10 at_ = lN tg) (h1 : at_ ≤ tg) (h2 : tg ≤ 1000) (hk1 : v_same (S t) (S (t - 1)))
    (ky : v_tr 0 (v_le (S t) (S (t - 1))) → ∀ w' S', KF w w' → KS w' S' (t - 1) 0 → (∀ s, s < t - 1 → S' s = S s) → S' (t - 1) = (2, 0, []) → HD z l d σ ad Q w' (tg + 1))
    (kn : ¬ v_tr 0 (v_le (S t) (S (t - 1))) → ∀ w', KF w w' → KS w' (va_up S t (v_le (S t) (S (t - 1)))) t 0 → HD z l d σ ad Q w' (at_ + 1)) : HD z l d σ ad Q w at_ := by
  obtain ⟨hc, hs, hl, hro, hlen, hle⟩ := hp
  refine kh_jump (tg := tg) hc hs hl hro hlen hle hat hS.2.2 ho (by decide) (by decide) ha (fun Q' j0 j1 => ?_)
  refine cs_K_jumps_o10 (d := d + 10) hc hs (cs_K_decidesBetween (d := d + 9) hc ?_)
  have eb : (if w.I 20 37 - 2 + 1 < 9 then 9 else w.I 20 37 - 2 + 1) = nI (t - 1) := by
    rw [hS.2.1, show t - 1 = t - 2 + 1 by omega]
    exact k_bot (n := 2) (by omega) (by omega)
  have p1 : nI (t - 1) + 1 = nI t := by rw [nI_1]; congr 1; omega
  have c0 : (nI (t - 1)).toNatClampNeg = t - 1 := nI_clamp (by omega)
  have c2 : (nI t).toNatClampNeg = t := nI_clamp (by omega)
  have i0 : vp_in (nI (t - 1)) 251 := vp_in_nI (by omega) (by omega)
  have i2 : vp_in (nI t) 251 := vp_in_nI (by omega) (by omega)
  rw [eb, p1]
  refine kd_putAtMost (d := d + 6) hc hl hS.1 (by omega) (by omega) (by omega) hk1 (fun w1 hf1 hS1 _ => gj_nextV ?_)
  have hk := hS.sf hf1 hS1
  obtain ⟨⟨a1, a2, a3⟩, a4⟩ := hS1 t (by omega)
  rw [va_up_self] at a1 a2
  have e1 : (if w1.I 20 37 - 1 < 8 then 8 else w1.I 20 37 - 1) = nI (t - 1) := by rw [hk.2.1]; exact k_drop (n := 1) (by omega) (by omega)
  refine cs_K_decidesBetween_17 (d := d + 9) hc (hf1.link hl) ?_ ?_ ?_ ?_ ?_ ?_ ?_ <;> rw [p1]
  · exact i2
  · rw [c2, a1]
    intro h _
    exact gj_nextI (cs_K_jumps_87 (d := d + 10) (v1 := 10) hc hs (nbb false) (j0 _ (kn (fun q => h q.1) _ hf1.kf hk)))
  · exact fun _ => i2
  · rw [c2, a1, a2, lg_cmp_eq]
    intro _ h _
    exact gj_nextI (cs_K_jumps_87 (d := d + 10) (v1 := 10) hc hs (nbb false) (j0 _ (kn (fun q => h q.2) _ hf1.kf hk)))
  · exact fun _ _ => i0
  · exact fun _ _ => i0
  · rw [c2, c0, a1, a2, lg_cmp_eq, e1]
    intro q1 q2 _
    refine gj_nextI (cs_K_jumps_87 (d := d + 10) (v1 := 10) hc hs (nbb true) (j1 _ (lN_i tg) h1 h2 (ky ⟨q1, q2⟩ _ _ ((hf1.trans ((sf_4 _ _).trans (sf_5 _ _))).kf.trans (kf_t _ _)) (hk.sf ((sf_4 _ _).trans (sf_5 _ _)) (hS1.num (t - 1) (v_ok_bool (Or.inl rfl)))).top (fun s hs9 => ?_) ?_)))
    · rw [va_up_ne _ _ (by omega), va_up_ne _ _ (by omega)]
    · rw [va_up_self]
/-- the loop that looks for NULL -/
theorem ks_null_loop {o n f : Nat} (hc : CW z σ ad) (hs : gj_St z op sg aO aS mO mS) (hl : CLk w ad) (hS : KS w S t 0) (ho : o < 43) (hf : f + n = t + 1) (ht : t < 251)
    (k : Go z l mt_K_closeStrict (d + 19) 12 [.ref (ad 20), .ref (op o), .int (nI n), .int (nI f), .int (b2i (nul S f n)), .int (nI (f + n))] [] (ov σ ad 21 w) Q) :
    ∀ m j, j + m = n → Go z l mt_K_closeStrict (d + 19) 12 [.ref (ad 20), .ref (op o), .int (nI n), .int (nI f), .int (b2i (nul S f j)), .int (nI (f + j))] [] (ov σ ad 21 w) Q := by
  intro m
  induction m with
  | zero => intro j hj; rw [show j = n by omega]; exact k
  | succ m ih =>
    intro j hj
    have q : ¬ w.I 20 37 < nI (f + j) := by rw [hS.2.1]; exact nI_nlt (by omega) (by omega)
    obtain ⟨⟨a1, -⟩, -⟩ := hS.1 (f + j) (by omega)
    have en : (nI (f + j)).toNatClampNeg = f + j := nI_clamp (by omega)
    have nx := ih (j + 1) (by omega)
    rw [show f + (j + 1) = f + j + 1 from rfl, nI_succ] at nx
    refine cs_K_closeStrict_12 (d := d + 10) hc hs hl ho (fun h => absurd h q) (fun h => absurd h q) (fun h => absurd h q) (fun h => absurd h q) (fun h => absurd h q) (fun h => absurd h q) (fun _ h => ?_) (fun _ _ => vp_in_nI (by omega) (by omega)) (fun _ h h2 => ?_) (fun _ h h2 => ?_)
    · rw [b2i_n] at h
      rw [nul, h, Bool.true_or] at nx
      exact nx
    · rw [b2i_0] at h
      rw [en, a1] at h2
      rw [nul, h, decide_eq_false h2] at nx
      exact nx
    · rw [en, a1] at h2
      rw [nul, decide_eq_true h2, Bool.or_true] at nx
      exact nx
theorem ks_strict0 {o n f : Nat} (hp : KP z σ ad op sg aO aS mO mS ko w len) (hS : KS w S t 0) (hn : 1 ≤ n) (h8 : 9 ≤ f) (hf : f + n = t + 1) (ht : t < 251) (ho : o < 43)
    (k0 : nul S f n = true → ∀ w', KF w w' → KS w' (va_up S f (3, 0, [])) f 0 → Q (.returned none) (ov σ ad 21 w'))
    (k1 : nul S f n = false → Go z l mt_K_closeStrict (d + 19) 12 [.ref (ad 20), .ref (op o), .int (nI n), .int (nI f), .int 0, .int (nI (t + 1))] [] (ov σ ad 21 w) Q) :
    Go z l mt_K_closeStrict (d + 19) 0 [.ref (ad 20), .ref (op o), .int (nI n), .retAddr 0, .retAddr 0, .retAddr 0] [] (ov σ ad 21 w) Q := by
  obtain ⟨hc, hs, hl, hro, hlen, hle⟩ := hp
  refine cs_K_closeStrict (d := d + 10) hc hs ?_
  have eb : (if w.I 20 37 - nI n + 1 < 9 then 9 else w.I 20 37 - nI n + 1) = nI f := by
    rw [hS.2.1, show f = t - n + 1 by omega]
    exact k_bot (by omega) (by omega)
  rw [eb]
  refine ks_null_loop (n := n) (f := f) hc hs hl hS ho hf ht ?_ n 0 (Nat.zero_add _)
  rw [hf]
  cases hb : nul S f n with
  | false => exact k1 hb
  | true =>
    have q : w.I 20 37 < nI (t + 1) := by rw [hS.2.1]; exact nI_lt (by omega) (by omega)
    have i1 : vp_in (nI f) 251 := vp_in_nI (by omega) (by omega)
    have e1 : (if w.I 20 37 - (nI n - 1) < 8 then 8 else w.I 20 37 - (nI n - 1)) = nI f := by
      rw [hS.2.1, show nI n - 1 = nI (n - 1) from pk_sub (b := 1) (by omega), show f = t - (n - 1) by omega]
      exact k_drop (by omega) (by omega)
    have c1 : ¬ (b2i true = 0) := by decide
    refine cs_K_closeStrict_12 (d := d + 10) hc hs hl ho (fun _ h => absurd h c1) (fun _ h => absurd h c1) (fun _ h => absurd h c1) (fun _ _ => i1) (fun _ _ => i1) (fun _ _ => ?_) (fun h => absurd q h) (fun h => absurd q h) (fun h => absurd q h) (fun h => absurd q h)
    rw [e1, nI_clamp (n := f) (by omega)]
    exact k0 hb _ ((kf_t w _).trans ((sf_4 _ _).trans (sf_5 _ _)).kf) ((hS.top (t' := f)).sf ((sf_4 _ _).trans (sf_5 _ _)) (SLS.num (w := w.setI 20 37 (nI f)) hS.1 f v_ok_null))
/-- strict steps that give a truth -/
theorem ks_sbool {o n f : Nat} (hp : KP z σ ad op sg aO aS mO mS ko w len) (hS : KS w S t 0) (hn : 1 ≤ n) (h8 : 9 ≤ f) (hf : f + n = t + 1) (ht : t < 251) (hat : at_ < len) (ho : ko at_ = o) (ho2 : o < 43) (hst : ¬ op_strict.getD o 0 = 0) (hres : op_result.getD o 0 = 2) (ha : w.eJ 10 at_ = lN n) {F : Bool}
    (kt : nul S f n = false → ∀ w0 : Wd, CLk w0 ad → SLS w0 S → ∀ Q' : Outcome → Hp → Prop, (∀ w', SF w0 w' → SLS w' S → Q' (.returned (some (.int (b2i F)))) (ov σ ad 21 w')) → Go z l mt_K_isTrue (d + 18) 0 [.ref (ad 20), .ref (op o), .int (nI f)] [] (ov σ ad 21 w0) Q')
    (k : ∀ w', KF w w' → KS w' (va_up S f (if nul S f n then (3, 0, []) else v_bool F)) f 0 → HD z l d σ ad Q w' (at_ + 1)) : HD z l d σ ad Q w at_ := by
  have hp0 := hp
  obtain ⟨hc, hs, hl, hro, hlen, hle⟩ := hp
  refine kh_strict hc hs hl hro hlen hle hat hS.2.2 ho hst ha (fun Q' j0 => ?_)
  rw [lN_i]
  refine ks_strict0 hp0 hS hn h8 hf ht ho2 (fun hb w' hf' hS' => j0 _ (k _ hf' (by rw [if_pos hb]; exact hS'))) (fun hb => ?_)
  have q : w.I 20 37 < nI (t + 1) := by rw [hS.2.1]; exact nI_lt (by omega) (by omega)
  have i1 : vp_in (nI f) 251 := vp_in_nI (by omega) (by omega)
  have e1 : (if w.I 20 37 - (nI n - 1) < 8 then 8 else w.I 20 37 - (nI n - 1)) = nI f := by
    rw [hS.2.1, show nI n - 1 = nI (n - 1) from pk_sub (b := 1) (by omega), show f = t - (n - 1) by omega]
    exact k_drop (by omega) (by omega)
  refine cs_K_closeStrict_12 (d := d + 10) hc hs hl ho2 (fun _ _ h => absurd hres h) (fun _ _ h => absurd hres h) (fun _ _ _ => ?_) (fun _ h => absurd rfl h) (fun _ h => absurd rfl h) (fun _ h => absurd rfl h) (fun h => absurd q h) (fun h => absurd q h) (fun h => absurd q h) (fun h => absurd q h)
  rw [e1]
  have hl0 := (kf_t w (nI f)).link hl
  refine kt hb (w.setI 20 37 (nI f)) hl0 hS.1 _ (fun w' hf' hS' _ => gj_nextI ?_)
  have hkt := (hS.top (t' := f)).sf hf' hS'
  have en : (nI f).toNatClampNeg = f := nI_clamp (by omega)
  refine cs_K_closeStrict_93 (d := d + 10) (v1 := o) hc hs (hf'.link hl0) (fun _ => i1) (fun _ => i1) (fun h => ?_) (fun _ => i1) (fun _ => i1) (fun h => ?_)
  · rw [b2i_0] at h
    rw [en]
    refine j0 _ (k _ ((kf_t w _).trans (hf'.trans ((sf_4 _ _).trans (sf_5 _ _))).kf) (hkt.sf ((sf_4 _ _).trans (sf_5 _ _)) ?_))
    rw [hb, h]
    exact hS'.num f (v_ok_bool (Or.inl rfl))
  · rw [b2i_n] at h
    rw [en]
    refine j0 _ (k _ ((kf_t w _).trans (hf'.trans ((sf_4 _ _).trans (sf_5 _ _))).kf) (hkt.sf ((sf_4 _ _).trans (sf_5 _ _)) ?_))
    rw [hb, h]
    exact hS'.num f (v_ok_bool (Or.inr rfl))
end ClSteps3
