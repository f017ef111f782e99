/-! ===== the checker's close ===== -/
section ClClose
variable {z : State} {l : Launch} {d : Nat} {σ : Hp} {ad : Nat → Nat} {w : Wd} {Q : Outcome → Hp → Prop} {op sg : Nat → Nat} {aO aS mO mS : Nat}
theorem cc_close_loop {o n base : Nat} {K : List Int32} (hc : CW z σ ad) (hs : gj_St z op sg aO aS mO mS) (hl : CLk w ad) (ho : o < 43) (hb : base < 1000) (hbn : base + n ≤ 1000) (hlen : K.length = n) (hsz : w.I 18 33 = nI (base + n)) (hK : ∀ j, j < n → w.eI 19 (base + j) = K.getD j 0)
    (k : ∀ e s, sp_kl o n K 0 3 0 = (e, s) → Q (.returned none) (ov σ ad 21 ((((w.setI 18 34 e).setI 18 33 (nI base)).rowI 19 (va_up (w.eI 19) base (if op_result.getD o 0 = 4 then s else op_result.getD o 0))).setI 18 33 (nI (base + 1))))) :
    ∀ m j s e, j + m = n → sp_kl o n (K.drop j) j s e = sp_kl o n K 0 3 0 → Go z l mt_C_close (d + 11) 31 [.ref (ad 18), .ref (op o), .int (nI n), .int (nI base), .int s, .int (nI (base + j)), .retAddr 0] [] (ov σ ad 21 (w.setI 18 34 e)) Q := by
  intro m
  have hl9 : ∀ e, CLk (w.setI 18 34 e) ad := fun e q hq => hl q hq
  have nb : ¬ (1000 : Int32) ≤ nI base := nI_ge (b := 1000) hb (by omega)
  have ib : vp_in (nI base) 1000 := vp_in_nI hb (by omega)
  have eb : (nI base).toNatClampNeg = base := nI_clamp (by omega)
  induction m with
  | zero =>
    intro j s e hj hkl
    have hj' : j = n := by omega
    subst hj'
    rw [List.drop_of_length_le (by omega)] at hkl
    have q : (w.setI 18 34 e).I 18 33 ≤ nI (base + j) := by
      show w.I 18 33 ≤ _
      rw [hsz]; exact nI_le (by omega) (by omega)
    have k' := k e s hkl.symm
    refine cs_C_close_31 (d := d + 2) hc hs (hl9 e) ho (fun _ _ h => absurd h nb) (fun _ _ _ => ib) (fun _ h _ => ?_) (fun _ _ h => absurd h nb) (fun _ _ _ => ib) (fun _ h _ => ?_) (fun h => absurd q h)
    · rw [if_neg h] at k'
      rw [eb, nI_1]
      exact k'
    · rw [if_pos h] at k'
      rw [eb, nI_1]
      exact k'
  | succ m ih =>
    intro j s e hj hkl
    have q : ¬ (w.setI 18 34 e).I 18 33 ≤ nI (base + j) := by
      show ¬ w.I 18 33 ≤ _
      rw [hsz]; exact nI_ge (by omega) (by omega)
    have no : ∀ P : Prop, (w.setI 18 34 e).I 18 33 ≤ nI (base + j) → P := fun P h => absurd h q
    have ij : vp_in (nI (base + j)) 1000 := vp_in_nI (by omega) (by omega)
    have ej : (nI (base + j)).toNatClampNeg = base + j := nI_clamp (by omega)
    have hkj := hK j (by omega)
    have hdr : K.drop j = K.getD j 0 :: K.drop (j + 1) := by
      rw [List.drop_eq_getElem_cons (by omega : j < K.length)]
      simp [List.getD, show j < K.length by omega]
    rw [hdr] at hkl
    have step : ∀ (s' : Int32) (e' : Int32) (v : Value), sp_kl o n (K.drop (j + 1)) (j + 1) s' e' = sp_kl o n K 0 3 0 → Go z l mt_C_close (d + 11) 31 [.ref (ad 18), .ref (op o), .int (nI n), .int (nI base), .int s', .int (nI (base + j) + 1), v] [] (ov σ ad 21 (w.setI 18 34 e')) Q := fun s' e' v h => by
      rw [nI_1]
      exact go_drop 6 (ih (j + 1) s' e' (by omega) h)
    have fin : ∀ (due s' : Int32) (v : Value), sp_kl o n (K.drop (j + 1)) (j + 1) s' (if sp_fits (K.getD j 0) due then e else 1) = sp_kl o n K 0 3 0 → Go z l mt_C_close (d + 11) 93 [.ref (ad 18), .ref (op o), .int (nI n), .int (nI base), .int s', .int (nI (base + j)), .int due] [.int (b2i (decide (sp_fits (K.getD j 0) due)))] (ov σ ad 21 (w.setI 18 34 e)) Q := fun due s' v h => by
      refine cs_C_close_93 (d := d + 2) (v1 := o) hc hs (fun hz => ?_) (fun hz => ?_)
      · rw [b2i_n] at hz
        rw [if_pos (of_decide_eq_true hz)] at h
        exact step _ _ _ h
      · rw [b2i_0] at hz
        rw [if_neg (of_decide_eq_false hz)] at h
        rw [Wd.setI_setI]
        exact step _ _ _ h
    refine cs_C_close_31 (d := d + 2) hc hs (hl9 e) ho (fun h => no _ h) (fun h => no _ h) (fun h => no _ h) (fun h => no _ h) (fun h => no _ h) (fun h => no _ h) (fun _ => ?_)
    rw [show nI (base + j) - nI base = nI j by rw [pk_sub (by omega)]; congr 1; omega]
    refine cc_due (d := d + 1) hc hs ho (by omega) (by omega) (fun _ => gj_nextI ?_)
    have e19 : (w.setI 18 34 e).eI 19 (nI (base + j)).toNatClampNeg = K.getD j 0 := by rw [ej]; exact hkj
    refine cs_C_close_49 (d := d + 2) (v1 := o) hc hs (hl9 e) (fun _ => ij) (fun h => ?_) (fun _ _ => ij) (fun h h2 => ?_) (fun _ _ => ij) (fun h h2 => ?_)
    · rw [e19]
      exact cc_fits (d := d + 1) hc (fun _ => gj_nextI (fin _ _ (.int 0) ((if_neg h).symm.trans hkl)))
    · rw [e19]
      refine cc_fits (d := d + 1) hc (fun _ => gj_nextI (fin _ _ (.int 0) ?_))
      have := (if_pos h).symm.trans hkl
      rw [if_neg h2] at this
      exact this
    · rw [e19]
      refine cc_fits (d := d + 1) hc (fun _ => gj_nextI (fin _ _ (.int 0) ?_))
      have := (if_pos h).symm.trans hkl
      rw [if_pos h2] at this
      exact this
end ClClose
