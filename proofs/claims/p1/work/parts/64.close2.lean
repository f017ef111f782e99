/-! ===== the checker's close, whole; the head of its loop ===== -/
theorem wd_I0 {w : Wd} {i f : Nat} {v : Int32} (h : w.I i f = v) : w.setI i f v = w := by
  refine wd_ext ?_ rfl rfl rfl rfl rfl
  show up22 w.I i f v = w.I
  rw [← h]
  exact up22_self _ _ _
section ClClose2
variable {z : State} {l : Launch} {d : Nat} {σ : Hp} {ad : Nat → Nat} {w : Wd} {Q : Outcome → Hp → Prop} {op sg : Nat → Nat} {aO aS mO mS : Nat}
theorem cc_close {o n base : Nat} {K : List Int32} (hc : CW z σ ad) (hs : gj_St z op sg aO aS mO mS) (hl : CLk w ad) (htag : σ.tag (op o) = 20) (ho : o < 43) (hb : base < 1000) (hbn : base + n ≤ 1000) (hlen : K.length = n) (he : w.I 18 34 = 0) (hsz : w.I 18 33 = nI (base + n)) (hK : ∀ j, j < n → w.eI 19 (base + j) = K.getD j 0)
    (k0 : sp_takes o n = false → Q (.returned none) (ov σ ad 21 (w.setI 18 34 2)))
    (k1 : sp_takes o n = true → ∀ e s, sp_kl o n K 0 3 0 = (e, s) → Q (.returned none) (ov σ ad 21 ((((w.setI 18 34 e).setI 18 33 (nI base)).rowI 19 (va_up (w.eI 19) base (if op_result.getD o 0 = 4 then s else op_result.getD o 0))).setI 18 33 (nI (base + 1))))) :
    Go z l mt_C_close (d + 11) 0 [.ref (ad 18), .ref (op o), .int (nI n), .retAddr 0, .retAddr 0, .retAddr 0, .retAddr 0] [] (ov σ ad 21 w) Q := by
  refine cs_C_close (d := d + 2) hc hs htag (cc_takes (d := d + 1) hc hs ho (by omega) (fun _ => gj_nextI (cs_C_close_5 (d := d + 2) (v1 := o) hc hs (fun h => ?_) (fun h => ?_))))
  · rw [b2i_n] at h
    have eb : (if 0 < w.I 18 33 - nI n then w.I 18 33 - nI n else 0) = nI base := by
      rw [hsz, pk_sub (by omega), show base + n - n = base by omega]
      by_cases h0 : base = 0
      · rw [h0]; decide
      · exact if_pos (show nI 0 < nI base from nI_lt (by omega) (by omega))
    rw [eb]
    have := cc_close_loop (d := d) (l := l) hc hs hl ho hb hbn hlen hsz hK (k1 h) n 0 3 0 (Nat.zero_add _) (by rw [List.drop_zero])
    rw [wd_I0 he] at this
    exact this
  · rw [b2i_0] at h
    exact k0 h
/-- the head of the checker's loop -/
def HK (z : State) (l : Launch) (d : Nat) (σ : Hp) (ad : Nat → Nat) (Q : Outcome → Hp → Prop) (w : Wd) (at_ : Nat) : Prop := Go z l mt_C_check (d + 20) 12 [.ref (ad 18), .ref (ad 8), .ref (ad 2), .int (nI at_), .retAddr 0, .retAddr 0] [] (ov σ ad 21 w) Q
theorem hk_err {ko : Nat → Nat} {at_ : Nat} (hc : CW z σ ad) (hs : gj_St z op sg aO aS mO mS) (hl : CLk w ad) (hro : RO w op ko) (he : ¬ w.I 18 34 = 0) (k : Q (.returned (some (.int (w.I 18 34)))) (ov σ ad 21 w)) : HK z l d σ ad Q w at_ :=
  cs_C_check_12 (d := d + 11) (ko9 := ko) hc hs hl hro (fun _ _ => k) (fun _ h => absurd h he) (fun _ h => absurd h he) (fun _ _ _ => k) (fun _ _ h => absurd h he) (fun _ _ h => absurd h he) (fun _ h => absurd h he) (fun _ h => absurd h he) (fun _ h => absurd h he) (fun _ h => absurd h he)
theorem hk_end {ko : Nat → Nat} {at_ len sz : Nat} (hc : CW z σ ad) (hs : gj_St z op sg aO aS mO mS) (hl : CLk w ad) (hro : RO w op ko) (hlen : w.I 8 19 = nI len) (hle : len ≤ 1000) (hat : len ≤ at_) (ha : at_ ≤ 1000) (he : w.I 18 34 = 0) (hsz : w.I 18 33 = nI sz) (hs0 : 0 < sz) (hs1 : sz ≤ 1000) (k : Q (.returned (some (.int 0))) (ov σ ad 21 (w.setI 18 35 (w.eI 19 0)))) : HK z l d σ ad Q w at_ := by
  have q : w.I 8 19 ≤ nI at_ := by rw [hlen]; exact nI_le hat (by omega)
  have qs : ¬ w.I 18 33 ≤ 0 := by rw [hsz]; exact nI_nle hs0 (by omega)
  have k' : Q (.returned (some (.int (w.I 18 34)))) (ov σ ad 21 (w.setI 18 35 (w.eI 19 0))) := by rw [he]; exact k
  exact cs_C_check_12 (d := d + 11) (ko9 := ko) hc hs hl hro (fun _ h => absurd he h) (fun _ _ h => absurd h qs) (fun _ _ _ => k') (fun h => absurd q h) (fun h => absurd q h) (fun h => absurd q h) (fun h => absurd q h) (fun h => absurd q h) (fun h => absurd q h) (fun h => absurd q h)
theorem hk_push {ko : Nat → Nat} {at_ len o : Nat} {a : Int64} (hc : CW z σ ad) (hs : gj_St z op sg aO aS mO mS) (hl : CLk w ad) (hro : RO w op ko) (hlen : w.I 8 19 = nI len) (hle : len ≤ 1000) (hat : at_ < len) (he : w.I 18 34 = 0) (ho : ko at_ = o) (h2 : op_closing.getD o 0 = 0) (ha : w.eJ 10 at_ = a)
    (k : ∀ Q' : Outcome → Hp → Prop, (∀ w', HK z l d σ ad Q w' (at_ + 1) → Q' (.returned none) (ov σ ad 21 w')) → Go z l mt_C_pushOf (d + 19) 0 [.ref (ad 18), .ref (op o), .int a.toInt32, .ref (ad 2)] [] (ov σ ad 21 w) Q') : HK z l d σ ad Q w at_ := by
  have q : ¬ w.I 8 19 ≤ nI at_ := by rw [hlen]; exact nI_ge hat (by omega)
  have en : (nI at_).toNatClampNeg = at_ := nI_clamp (by omega)
  have vi : vp_in (nI at_) 1000 := vp_in_nI (by omega) (by omega)
  refine cs_C_check_12 (d := d + 11) (ko9 := ko) hc hs hl hro (fun h => absurd h q) (fun h => absurd h q) (fun h => absurd h q) (fun _ h => absurd he h) (fun _ h => absurd he h) (fun _ h => absurd he h) (fun _ _ => vi) (fun _ _ => vi) (fun _ _ _ => ?_) (fun _ _ h => absurd (by rw [en, ho]; exact h2) h)
  rw [en, ho, ha]
  refine k _ (fun w' hk _ => gj_nextV (cs_C_check_72 (d := d + 11) (v4 := o) hc hs ?_))
  rw [nI_1]
  exact go_drop 4 (go_drop 5 hk)
theorem hk_close {ko : Nat → Nat} {at_ len o : Nat} {a : Int64} (hc : CW z σ ad) (hs : gj_St z op sg aO aS mO mS) (hl : CLk w ad) (hro : RO w op ko) (hlen : w.I 8 19 = nI len) (hle : len ≤ 1000) (hat : at_ < len) (he : w.I 18 34 = 0) (ho : ko at_ = o) (h2 : ¬ op_closing.getD o 0 = 0) (ha : w.eJ 10 at_ = a)
    (k : ∀ Q' : Outcome → Hp → Prop, (∀ w', HK z l d σ ad Q w' (at_ + 1) → Q' (.returned none) (ov σ ad 21 w')) → Go z l mt_C_close (d + 19) 0 [.ref (ad 18), .ref (op o), .int a.toInt32, .retAddr 0, .retAddr 0, .retAddr 0, .retAddr 0] [] (ov σ ad 21 w) Q') : HK z l d σ ad Q w at_ := by
  have q : ¬ w.I 8 19 ≤ nI at_ := by rw [hlen]; exact nI_ge hat (by omega)
  have en : (nI at_).toNatClampNeg = at_ := nI_clamp (by omega)
  have vi : vp_in (nI at_) 1000 := vp_in_nI (by omega) (by omega)
  refine cs_C_check_12 (d := d + 11) (ko9 := ko) hc hs hl hro (fun h => absurd h q) (fun h => absurd h q) (fun h => absurd h q) (fun _ h => absurd he h) (fun _ h => absurd he h) (fun _ h => absurd he h) (fun _ _ => vi) (fun _ _ => vi) (fun _ _ h => absurd (by rw [en, ho] at h; exact h) h2) (fun _ _ _ => ?_)
  rw [en, ho, ha]
  refine k _ (fun w' hk _ => gj_nextV (cs_C_check_60 (d := d + 11) (v4 := o) hc hs ?_))
  rw [nI_1]
  exact go_drop 4 (go_drop 5 hk)
end ClClose2
