/-! ===== strict steps: numbers ===== -/
def j_abs (x : Int64) : Int64 := if 0 < x then x else -x
def sp_arith (o : Nat) (a b : Int64) : Int32 × Int64 := match o with
  | 28 => (0, a + b)
  | 29 => (0, a - b)
  | 30 => if a = 0 then (0, a * b) else if j_abs b ≤ 9007199254740991 / j_abs a then (0, a * b) else (0, 9007199254740992)
  | 31 => if b = 0 then (3, 0) else (0, a / b)
  | 32 => if b = 0 then (3, 0) else (0, a - a / b * b)
  | 33 => (0, -a)
  | 35 => (0, j_abs a)
  | _ => (0, a)
/-- the error that is left behind a number -/
def sp_fin (x : Int32 × Int64) : Int32 := if ¬ x.1 = 0 then x.1 else if x.2 < -9007199254740991 ∨ 9007199254740991 < x.2 then 4 else 0
theorem op_inj {z : State} {op sg : Nat → Nat} {aO aS mO mS i j : Nat} (hs : gj_St z op sg aO aS mO mS) (hi : i < 43) (hj : j < 43) (h : some (op i) = some (op j)) : i = j := hs.1.2 i j hi hj (Option.some.inj h)
theorem sg_inj {z : State} {op sg : Nat → Nat} {aO aS mO mS i j : Nat} (hs : gj_St z op sg aO aS mO mS) (hi : i < 35) (hj : j < 35) (h : some (sg i) = some (sg j)) : i = j := hs.2.1.2 i j hi hj (Option.some.inj h)
theorem j_abs0 {x : Int64} (h : ¬ x = 0) : ¬ j_abs x = 0 := by
  unfold j_abs
  split
  · exact h
  · intro q
    refine h ?_
    have := congrArg (fun y : Int64 => -y) q
    simpa using this
section ClInts
variable {z : State} {l : Launch} {d : Nat} {σ : Hp} {ad : Nat → Nat} {w : Wd} {S : Nat → Va} {Q : Outcome → Hp → Prop} {op sg : Nat → Nat} {aO aS mO mS : Nat} {ko : Nat → Nat} {len at_ t f : Nat} {e : Int32}
theorem kd_putInt {s : Nat} {y : Int64} (hc : CW z σ ad) (hl : CLk w ad) (hS : KS w S t e) (hs : s < 251) (k : ∀ w', KF w w' → KS w' (va_up S s (0, y, [])) t (sp_fin (e, y)) → Q (.returned none) (ov σ ad 21 w')) :
    Go z l mt_K_putInt (d + 9) 0 [.ref (ad 20), .int (nI s), .long y, .retAddr 0] [] (ov σ ad 21 w) Q := by
  have en : (nI s).toNatClampNeg = s := nI_clamp (by omega)
  have i1 : vp_in (nI s) 251 := vp_in_nI hs (by omega)
  have hok : v_ok (0, y, []) := Or.inl ⟨rfl, rfl⟩
  refine cs_K_putInt (d := d) hc hl (fun _ => i1) (fun _ => i1) (fun h => ?_) (fun _ _ => i1) (fun _ _ => i1) (fun h h1 => ?_) (fun _ _ _ => i1) (fun _ _ _ => i1) (fun h h1 h2 => ?_) (fun _ _ _ => i1) (fun _ _ _ => i1) (fun h h1 h2 => ?_) <;> rw [hS.2.2] at h <;> rw [en]
  · refine k _ ((sf_4 _ _).trans (sf_5 _ _)).kf ?_
    rw [sp_fin, if_pos h]
    exact hS.sf ((sf_4 _ _).trans (sf_5 _ _)) (hS.1.num s hok)
  · rw [lg_cmp_lt] at h1
    refine k _ ((kf_e w _).trans ((sf_4 _ _).trans (sf_5 _ _)).kf) ?_
    rw [sp_fin, if_neg (fun q => q h), if_pos (Or.inl h1)]
    exact (hS.err 4).sf ((sf_4 _ _).trans (sf_5 _ _)) (SLS.num (w := w.setI 20 38 4) hS.1 s hok)
  · rw [lg_cmp_gt] at h2
    refine k _ ((kf_e w _).trans ((sf_4 _ _).trans (sf_5 _ _)).kf) ?_
    rw [sp_fin, if_neg (fun q => q h), if_pos (Or.inr h2)]
    exact (hS.err 4).sf ((sf_4 _ _).trans (sf_5 _ _)) (SLS.num (w := w.setI 20 38 4) hS.1 s hok)
  · rw [lg_cmp_lt] at h1
    rw [lg_cmp_gt] at h2
    refine k _ ((sf_4 _ _).trans (sf_5 _ _)).kf ?_
    rw [sp_fin, if_neg (fun q => q h), if_neg (fun q => q.elim h1 h2)]
    have := hS.sf ((sf_4 _ _).trans (sf_5 _ _)) (hS.1.num s hok)
    rw [h] at this
    exact this
theorem kn_33 (hc : CW z σ ad) (hs : gj_St z op sg aO aS mO mS) (hl : CLk w ad) (hS : KS w S t 0) (hf : f < 251) {b : Int64} (k : ∀ w', KF w w' → KS w' S t (sp_arith 33 (S f).2.1 b).1 → Q (.returned (some (.long (sp_arith 33 (S f).2.1 b).2))) (ov σ ad 21 w')) :
    Go z l mt_K_result (d + 18) 0 [.ref (ad 20), .ref (op 33), .int (nI f), .retAddr 0, .retAddr 0] [] (ov σ ad 21 w) Q := by
  obtain ⟨⟨a1, a2, a3⟩, a4⟩ := hS.1 f (by omega)
  have en : (nI f).toNatClampNeg = f := nI_clamp (by omega)
  refine cs_K_result_o33 (d := d + 9) hc hs hl (vp_in_nI (by omega) (by omega)) ?_
  rw [en, a2]
  exact k w (KF.refl w) hS
theorem kn_35 (hc : CW z σ ad) (hs : gj_St z op sg aO aS mO mS) (hl : CLk w ad) (hS : KS w S t 0) (hf : f < 251) {b : Int64} (k : ∀ w', KF w w' → KS w' S t (sp_arith 35 (S f).2.1 b).1 → Q (.returned (some (.long (sp_arith 35 (S f).2.1 b).2))) (ov σ ad 21 w')) :
    Go z l mt_K_result (d + 18) 0 [.ref (ad 20), .ref (op 35), .int (nI f), .retAddr 0, .retAddr 0] [] (ov σ ad 21 w) Q := by
  obtain ⟨⟨a1, a2, a3⟩, a4⟩ := hS.1 f (by omega)
  have en : (nI f).toNatClampNeg = f := nI_clamp (by omega)
  refine cs_K_result_o35 (d := d + 9) hc hs hl (vp_in_nI (by omega) (by omega)) ?_
  rw [en, a2]
  exact k w (KF.refl w) hS
theorem kn_36 (hc : CW z σ ad) (hs : gj_St z op sg aO aS mO mS) (hl : CLk w ad) (hS : KS w S t 0) (hf : f < 251) {b : Int64} (k : ∀ w', KF w w' → KS w' S t (sp_arith 36 (S f).2.1 b).1 → Q (.returned (some (.long (sp_arith 36 (S f).2.1 b).2))) (ov σ ad 21 w')) :
    Go z l mt_K_result (d + 18) 0 [.ref (ad 20), .ref (op 36), .int (nI f), .retAddr 0, .retAddr 0] [] (ov σ ad 21 w) Q := by
  obtain ⟨⟨a1, a2, a3⟩, a4⟩ := hS.1 f (by omega)
  have en : (nI f).toNatClampNeg = f := nI_clamp (by omega)
  refine cs_K_result_o36 (d := d + 9) hc hs hl (vp_in_nI (by omega) (by omega)) ?_
  rw [en, a2]
  exact k w (KF.refl w) hS
theorem kn_28 (hc : CW z σ ad) (hs : gj_St z op sg aO aS mO mS) (hl : CLk w ad) (hS : KS w S t 0) (hf : f + 1 < 251) (k : ∀ w', KF w w' → KS w' S t (sp_arith 28 (S f).2.1 (S (f + 1)).2.1).1 → Q (.returned (some (.long (sp_arith 28 (S f).2.1 (S (f + 1)).2.1).2))) (ov σ ad 21 w')) :
    Go z l mt_K_result (d + 18) 0 [.ref (ad 20), .ref (op 28), .int (nI f), .retAddr 0, .retAddr 0] [] (ov σ ad 21 w) Q := by
  obtain ⟨⟨a1, a2, a3⟩, a4⟩ := hS.1 f (by omega)
  obtain ⟨⟨b1, b2, b3⟩, b4⟩ := hS.1 (f + 1) (by omega)
  have en : (nI f).toNatClampNeg = f := nI_clamp (by omega)
  refine cs_K_result_o28 (d := d + 9) hc hs hl (vp_in_nI (by omega) (by omega)) (by rw [nI_1]; exact vp_in_nI (by omega) (by omega)) ?_
  rw [nI_1, en, nI_clamp (n := f + 1) (by omega), a2, b2]
  exact cs_K_resultOfTwo_o28 (d := d + 8) hc hs (fun _ => gj_nextI (cs_K_result_79 (d := d + 9) (v1 := 28) hc hs (k w (KF.refl w) hS)))
theorem kn_29 (hc : CW z σ ad) (hs : gj_St z op sg aO aS mO mS) (hl : CLk w ad) (hS : KS w S t 0) (hf : f + 1 < 251) (k : ∀ w', KF w w' → KS w' S t (sp_arith 29 (S f).2.1 (S (f + 1)).2.1).1 → Q (.returned (some (.long (sp_arith 29 (S f).2.1 (S (f + 1)).2.1).2))) (ov σ ad 21 w')) :
    Go z l mt_K_result (d + 18) 0 [.ref (ad 20), .ref (op 29), .int (nI f), .retAddr 0, .retAddr 0] [] (ov σ ad 21 w) Q := by
  obtain ⟨⟨a1, a2, a3⟩, a4⟩ := hS.1 f (by omega)
  obtain ⟨⟨b1, b2, b3⟩, b4⟩ := hS.1 (f + 1) (by omega)
  have en : (nI f).toNatClampNeg = f := nI_clamp (by omega)
  refine cs_K_result_o29 (d := d + 9) hc hs hl (vp_in_nI (by omega) (by omega)) (by rw [nI_1]; exact vp_in_nI (by omega) (by omega)) ?_
  rw [nI_1, en, nI_clamp (n := f + 1) (by omega), a2, b2]
  exact cs_K_resultOfTwo_o29 (d := d + 8) hc hs (fun _ => gj_nextI (cs_K_result_79 (d := d + 9) (v1 := 29) hc hs (k w (KF.refl w) hS)))
theorem kn_30 (hc : CW z σ ad) (hs : gj_St z op sg aO aS mO mS) (hl : CLk w ad) (hS : KS w S t 0) (hf : f + 1 < 251) (k : ∀ w', KF w w' → KS w' S t (sp_arith 30 (S f).2.1 (S (f + 1)).2.1).1 → Q (.returned (some (.long (sp_arith 30 (S f).2.1 (S (f + 1)).2.1).2))) (ov σ ad 21 w')) :
    Go z l mt_K_result (d + 18) 0 [.ref (ad 20), .ref (op 30), .int (nI f), .retAddr 0, .retAddr 0] [] (ov σ ad 21 w) Q := by
  obtain ⟨⟨a1, a2, a3⟩, a4⟩ := hS.1 f (by omega)
  obtain ⟨⟨b1, b2, b3⟩, b4⟩ := hS.1 (f + 1) (by omega)
  have en : (nI f).toNatClampNeg = f := nI_clamp (by omega)
  refine cs_K_result_o30 (d := d + 9) hc hs hl (vp_in_nI (by omega) (by omega)) (by rw [nI_1]; exact vp_in_nI (by omega) (by omega)) ?_
  rw [nI_1, en, nI_clamp (n := f + 1) (by omega), a2, b2]
  have fin : ∀ y : Int64, sp_arith 30 (S f).2.1 (S (f + 1)).2.1 = (0, y) → Go z l mt_K_result (d + 18) 79 [.ref (ad 20), .ref (op 30), .int (nI f), .long (S f).2.1, .retAddr 0] [.long y] (ov σ ad 21 w) Q := fun y hy => cs_K_result_79 (d := d + 9) (v1 := 30) hc hs (by
    have := k w (KF.refl w) (by rw [hy]; exact hS)
    rw [hy] at this
    exact this)
  refine cs_K_resultOfTwo_o30 (d := d + 8) hc hs (fun h _ => gj_nextI (fin _ ?_)) (fun h => j_abs0 (fun q => h ((lg_cmp_eq _ _).mpr q))) (fun h h2 _ => gj_nextI (fin _ ?_)) (fun h h2 _ => gj_nextI (fin _ ?_))
  · exact if_pos ((lg_cmp_eq _ _).mp h)
  · exact (if_neg (fun q => h ((lg_cmp_eq _ _).mpr q))).trans (if_pos ((lg_cmp_le _ _).mp h2))
  · exact (if_neg (fun q => h ((lg_cmp_eq _ _).mpr q))).trans (if_neg (fun q => h2 ((lg_cmp_le _ _).mpr q)))
theorem kn_31 (hc : CW z σ ad) (hs : gj_St z op sg aO aS mO mS) (hl : CLk w ad) (hS : KS w S t 0) (hf : f + 1 < 251) (k : ∀ w', KF w w' → KS w' S t (sp_arith 31 (S f).2.1 (S (f + 1)).2.1).1 → Q (.returned (some (.long (sp_arith 31 (S f).2.1 (S (f + 1)).2.1).2))) (ov σ ad 21 w')) :
    Go z l mt_K_result (d + 18) 0 [.ref (ad 20), .ref (op 31), .int (nI f), .retAddr 0, .retAddr 0] [] (ov σ ad 21 w) Q := by
  obtain ⟨⟨a1, a2, a3⟩, a4⟩ := hS.1 f (by omega)
  obtain ⟨⟨b1, b2, b3⟩, b4⟩ := hS.1 (f + 1) (by omega)
  have en : (nI f).toNatClampNeg = f := nI_clamp (by omega)
  refine cs_K_result_o31 (d := d + 9) hc hs hl (vp_in_nI (by omega) (by omega)) (by rw [nI_1]; exact vp_in_nI (by omega) (by omega)) ?_
  rw [nI_1, en, nI_clamp (n := f + 1) (by omega), a2, b2]
  have fin : ∀ (w' : Wd) (x : Int32) (y : Int64), KF w w' → KS w' S t x → sp_arith 31 (S f).2.1 (S (f + 1)).2.1 = (x, y) → Go z l mt_K_result (d + 18) 79 [.ref (ad 20), .ref (op 31), .int (nI f), .long (S f).2.1, .retAddr 0] [.long y] (ov σ ad 21 w') Q := fun w' x y hf' hS' hy => cs_K_result_79 (d := d + 9) (v1 := 31) hc hs (by
    have := k w' hf' (by rw [hy]; exact hS')
    rw [hy] at this
    exact this)
  refine cs_K_resultOfTwo_o31 (d := d + 8) hc hs (fun _ h => absurd rfl h) (fun _ h => absurd rfl h) (fun h _ q => h ((lg_cmp_eq _ _).mpr q)) (fun h _ _ => gj_nextI (fin w 0 _ (KF.refl w) hS ?_)) (fun h _ => gj_nextI (fin _ 3 0 (kf_e w 3) (hS.err 3) ?_))
  · exact if_neg (fun q => h ((lg_cmp_eq _ _).mpr q))
  · exact if_pos ((lg_cmp_eq _ _).mp h)
theorem kn_32 (hc : CW z σ ad) (hs : gj_St z op sg aO aS mO mS) (hl : CLk w ad) (hS : KS w S t 0) (hf : f + 1 < 251) (k : ∀ w', KF w w' → KS w' S t (sp_arith 32 (S f).2.1 (S (f + 1)).2.1).1 → Q (.returned (some (.long (sp_arith 32 (S f).2.1 (S (f + 1)).2.1).2))) (ov σ ad 21 w')) :
    Go z l mt_K_result (d + 18) 0 [.ref (ad 20), .ref (op 32), .int (nI f), .retAddr 0, .retAddr 0] [] (ov σ ad 21 w) Q := by
  obtain ⟨⟨a1, a2, a3⟩, a4⟩ := hS.1 f (by omega)
  obtain ⟨⟨b1, b2, b3⟩, b4⟩ := hS.1 (f + 1) (by omega)
  have en : (nI f).toNatClampNeg = f := nI_clamp (by omega)
  refine cs_K_result_o32 (d := d + 9) hc hs hl (vp_in_nI (by omega) (by omega)) (by rw [nI_1]; exact vp_in_nI (by omega) (by omega)) ?_
  rw [nI_1, en, nI_clamp (n := f + 1) (by omega), a2, b2]
  have fin : ∀ (w' : Wd) (x : Int32) (y : Int64), KF w w' → KS w' S t x → sp_arith 32 (S f).2.1 (S (f + 1)).2.1 = (x, y) → Go z l mt_K_result (d + 18) 79 [.ref (ad 20), .ref (op 32), .int (nI f), .long (S f).2.1, .retAddr 0] [.long y] (ov σ ad 21 w') Q := fun w' x y hf' hS' hy => cs_K_result_79 (d := d + 9) (v1 := 32) hc hs (by
    have := k w' hf' (by rw [hy]; exact hS')
    rw [hy] at this
    exact this)
  refine cs_K_resultOfTwo_o32 (d := d + 8) hc hs (fun h _ q => h ((lg_cmp_eq _ _).mpr q)) (fun h _ _ => gj_nextI (fin w 0 _ (KF.refl w) hS ?_)) (fun _ q => absurd (op_inj hs (by decide) (by decide) q) (by decide)) (fun _ q => absurd (op_inj hs (by decide) (by decide) q) (by decide)) (fun h _ => gj_nextI (fin _ 3 0 (kf_e w 3) (hS.err 3) ?_))
  · exact if_neg (fun q => h ((lg_cmp_eq _ _).mpr q))
  · exact if_pos ((lg_cmp_eq _ _).mp h)
theorem ks_sint {o n : Nat} (hp : KP z σ ad op sg aO aS mO mS ko w len) (hS : KS w S t 0) (hn : 1 ≤ n) (h8 : 9 ≤ f) (hf : f + n = t + 1) (ht : t < 251) (hat : at_ < len) (ho : ko at_ = o) (ho2 : o < 43) (hst : ¬ op_strict.getD o 0 = 0) (hres : op_result.getD o 0 = 0) (ha : w.eJ 10 at_ = lN n) {x : Int32 × Int64}
    (kt : nul S f n = false → ∀ w0 : Wd, CLk w0 ad → KS w0 S f 0 → ∀ Q' : Outcome → Hp → Prop, (∀ w', KF w0 w' → KS w' S f x.1 → Q' (.returned (some (.long x.2))) (ov σ ad 21 w')) → Go z l mt_K_result (d + 18) 0 [.ref (ad 20), .ref (op o), .int (nI f), .retAddr 0, .retAddr 0] [] (ov σ ad 21 w0) Q')
    (k0 : nul S f n = true → ∀ w', KF w w' → KS w' (va_up S f (3, 0, [])) f 0 → HD z l d σ ad Q w' (at_ + 1))
    (k1 : nul S f n = false → ∀ w', KF w w' → KS w' (va_up S f (0, x.2, [])) f (sp_fin x) → HD z l d σ ad Q w' (at_ + 1)) : HD z l d σ ad Q w at_ := by
  have hp0 := hp
  obtain ⟨hc, hs, hl, hro, hlen, hle⟩ := hp
  refine kh_strict hc hs hl hro hlen hle hat hS.2.2 ho hst ha (fun Q' j0 => ?_)
  rw [lN_i]
  refine ks_strict0 hp0 hS hn h8 hf ht ho2 (fun hb w' hf' hS' => j0 _ (k0 hb _ hf' hS')) (fun hb => ?_)
  have q : w.I 20 37 < nI (t + 1) := by rw [hS.2.1]; exact nI_lt (by omega) (by omega)
  have e1 : (if w.I 20 37 - (nI n - 1) < 8 then 8 else w.I 20 37 - (nI n - 1)) = nI f := by
    rw [hS.2.1, show nI n - 1 = nI (n - 1) from pk_sub (b := 1) (by omega), show f = t - (n - 1) by omega]
    exact k_drop (by omega) (by omega)
  refine cs_K_closeStrict_12 (d := d + 10) hc hs hl ho2 (fun _ _ _ _ => ?_) (fun _ _ _ h => absurd h (by rw [hres]; decide)) (fun _ _ h => absurd h (by rw [hres]; decide)) (fun _ h => absurd rfl h) (fun _ h => absurd rfl h) (fun _ h => absurd rfl h) (fun h => absurd q h) (fun h => absurd q h) (fun h => absurd q h) (fun h => absurd q h)
  rw [e1]
  have hl0 := (kf_t w (nI f)).link hl
  refine kt hb (w.setI 20 37 (nI f)) hl0 hS.top _ (fun w' hf' hS' _ => gj_nextI (cs_K_closeStrict_124 (d := d + 10) (v1 := o) hc hs ?_))
  exact kd_putInt (d := d + 9) hc (hf'.link hl0) hS' (by omega) (fun w2 hf2 hS2 _ => gj_nextV (cs_K_closeStrict_127 (d := d + 10) (v1 := o) hc hs (j0 _ (k1 hb _ (((kf_t w _).trans hf').trans hf2) hS2))))
end ClInts
