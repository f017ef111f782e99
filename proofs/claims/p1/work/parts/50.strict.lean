/-! ===== strict steps: which truths, texts, numbers ===== -/
theorem nul1 {S : Nat → Va} {f : Nat} (h : nul S f 1 = false) : ¬ (S f).1 = 3 := by
  simp [nul] at h
  exact h
theorem nul2 {S : Nat → Va} {f : Nat} (h : nul S f 2 = false) : ¬ (S f).1 = 3 ∧ ¬ (S (f + 1)).1 = 3 := by
  simp [nul] at h
  exact h
theorem nul3 {S : Nat → Va} {f : Nat} (h : nul S f 3 = false) : ¬ (S f).1 = 3 ∧ ¬ (S (f + 1)).1 = 3 ∧ ¬ (S (f + 2)).1 = 3 := by
  simp [nul] at h
  exact ⟨h.1.1, h.1.2, h.2⟩
theorem i32_nlt {a b : Int32} : ¬ a < b ↔ b ≤ a := by
  rw [Int32.lt_iff_toInt_lt, Int32.le_iff_toInt_le]
  omega
section ClStrict
variable {z : State} {l : Launch} {d : Nat} {σ : Hp} {ad : Nat → Nat} {w : Wd} {S : Nat → Va} {Q : Outcome → Hp → Prop} {op sg : Nat → Nat} {aO aS mO mS : Nat} {ko : Nat → Nat} {len at_ t f : Nat} {a : Int64}
theorem kt_16 (hc : CW z σ ad) (hs : gj_St z op sg aO aS mO mS) (hl : CLk w ad) (hS : SLS w S) (hf : f < 251) (k : ∀ w', SF w w' → SLS w' S → Q (.returned (some (.int (b2i (sp_bool 16 (S f) (S (f + 1))))))) (ov σ ad 21 w')) :
    Go z l mt_K_isTrue (d + 18) 0 [.ref (ad 20), .ref (op 16), .int (nI f)] [] (ov σ ad 21 w) Q := by
  obtain ⟨⟨a1, a2, a3⟩, a4⟩ := hS f hf
  have en : (nI f).toNatClampNeg = f := nI_clamp (by omega)
  have i1 : vp_in (nI f) 251 := vp_in_nI (by omega) (by omega)
  have k' := k w (SF.refl w) hS
  refine cs_K_isTrue_o16 (d := d + 9) hc hs hl i1 (fun h => ?_) (fun _ => i1) (fun h h2 => ?_) (fun h h2 => ?_)
  · rw [en, a1] at h
    rw [show sp_bool 16 (S f) (S (f + 1)) = false from decide_eq_false (fun q => h q.1)] at k'
    exact k'
  · rw [en, a2, lg_cmp_eq] at h2
    rw [show sp_bool 16 (S f) (S (f + 1)) = false from decide_eq_false (fun q => h2 q.2)] at k'
    exact k'
  · rw [en, a1] at h
    rw [en, a2, lg_cmp_eq] at h2
    rw [show sp_bool 16 (S f) (S (f + 1)) = true from decide_eq_true ⟨h, h2⟩] at k'
    exact k'
theorem kt_20 (hc : CW z σ ad) (hs : gj_St z op sg aO aS mO mS) (hl : CLk w ad) (hS : SLS w S) (hf : f + 1 < 251) (hk : (S f).1 = (S (f + 1)).1) (k : ∀ w', SF w w' → SLS w' S → Q (.returned (some (.int (b2i (sp_bool 20 (S f) (S (f + 1))))))) (ov σ ad 21 w')) :
    Go z l mt_K_isTrue (d + 18) 0 [.ref (ad 20), .ref (op 20), .int (nI f)] [] (ov σ ad 21 w) Q := by
  obtain ⟨ha, a4⟩ := hS f (by omega)
  obtain ⟨hb, b4⟩ := hS (f + 1) hf
  have k' := k w (SF.refl w) hS
  refine cs_K_isTrue_o20 (d := d + 9) hc hs hl ?_
  rw [nI_1]
  refine cl_compare (d := d + 7) hc hl (by omega) hf ha hb a4 b4 hk (fun r hr _ => gj_nextI (cs_K_isTrue_85 (d := d + 9) (v1 := 20) hc hs (fun h => ?_) (fun h => ?_)))
  · rw [show sp_bool 20 (S f) (S (f + 1)) = false from decide_eq_false (fun q => h ((sg_le hr).2.1.mpr q))] at k'
    exact k'
  · rw [show sp_bool 20 (S f) (S (f + 1)) = true from decide_eq_true ((sg_le hr).2.1.mp h)] at k'
    exact k'
theorem kt_21 (hc : CW z σ ad) (hs : gj_St z op sg aO aS mO mS) (hl : CLk w ad) (hS : SLS w S) (hf : f + 1 < 251) (hk : (S f).1 = (S (f + 1)).1) (k : ∀ w', SF w w' → SLS w' S → Q (.returned (some (.int (b2i (sp_bool 21 (S f) (S (f + 1))))))) (ov σ ad 21 w')) :
    Go z l mt_K_isTrue (d + 18) 0 [.ref (ad 20), .ref (op 21), .int (nI f)] [] (ov σ ad 21 w) Q := by
  obtain ⟨ha, a4⟩ := hS f (by omega)
  obtain ⟨hb, b4⟩ := hS (f + 1) hf
  have k' := k w (SF.refl w) hS
  refine cs_K_isTrue_o21 (d := d + 9) hc hs hl ?_
  rw [nI_1]
  refine cl_compare (d := d + 7) hc hl (by omega) hf ha hb a4 b4 hk (fun r hr _ => gj_nextI (cs_K_isTrue_105 (d := d + 9) (v1 := 21) hc hs (fun h => ?_) (fun h => ?_)))
  · rw [show sp_bool 21 (S f) (S (f + 1)) = false from decide_eq_false (fun q => q ((sg_le hr).2.1.mp h))] at k'
    exact k'
  · rw [show sp_bool 21 (S f) (S (f + 1)) = true from decide_eq_true (fun q => h ((sg_le hr).2.1.mpr q))] at k'
    exact k'
theorem kt_22 (hc : CW z σ ad) (hs : gj_St z op sg aO aS mO mS) (hl : CLk w ad) (hS : SLS w S) (hf : f + 1 < 251) (hk : (S f).1 = (S (f + 1)).1) (k : ∀ w', SF w w' → SLS w' S → Q (.returned (some (.int (b2i (sp_bool 22 (S f) (S (f + 1))))))) (ov σ ad 21 w')) :
    Go z l mt_K_isTrue (d + 18) 0 [.ref (ad 20), .ref (op 22), .int (nI f)] [] (ov σ ad 21 w) Q := by
  obtain ⟨ha, a4⟩ := hS f (by omega)
  obtain ⟨hb, b4⟩ := hS (f + 1) hf
  have k' := k w (SF.refl w) hS
  refine cs_K_isTrue_o22 (d := d + 9) hc hs hl ?_
  rw [nI_1]
  refine cl_compare (d := d + 7) hc hl (by omega) hf ha hb a4 b4 hk (fun r hr _ => gj_nextI (cs_K_isTrue_125 (d := d + 9) (v1 := 22) hc hs (fun h => ?_) (fun h => ?_)))
  · rw [show sp_bool 22 (S f) (S (f + 1)) = false from decide_eq_false (fun q => (i32_nlt.mpr h) ((sg_le hr).2.2.mpr q))] at k'
    exact k'
  · rw [show sp_bool 22 (S f) (S (f + 1)) = true from decide_eq_true ((sg_le hr).2.2.mp (Decidable.not_not.mp (fun q => h (i32_nlt.mp q))))] at k'
    exact k'
theorem kt_23 (hc : CW z σ ad) (hs : gj_St z op sg aO aS mO mS) (hl : CLk w ad) (hS : SLS w S) (hf : f + 1 < 251) (hk : (S f).1 = (S (f + 1)).1) (k : ∀ w', SF w w' → SLS w' S → Q (.returned (some (.int (b2i (sp_bool 23 (S f) (S (f + 1))))))) (ov σ ad 21 w')) :
    Go z l mt_K_isTrue (d + 18) 0 [.ref (ad 20), .ref (op 23), .int (nI f)] [] (ov σ ad 21 w) Q := by
  obtain ⟨ha, a4⟩ := hS f (by omega)
  obtain ⟨hb, b4⟩ := hS (f + 1) hf
  have k' := k w (SF.refl w) hS
  refine cs_K_isTrue_o23 (d := d + 9) hc hs hl ?_
  rw [nI_1]
  refine cl_compare (d := d + 7) hc hl (by omega) hf ha hb a4 b4 hk (fun r hr _ => gj_nextI (cs_K_isTrue_145 (d := d + 9) (v1 := 23) hc hs (fun h => ?_) (fun h => ?_)))
  · rw [show sp_bool 23 (S f) (S (f + 1)) = false from decide_eq_false ((sg_le hr).1.mp h)] at k'
    exact k'
  · rw [show sp_bool 23 (S f) (S (f + 1)) = true from decide_eq_true (Decidable.not_not.mp (fun q => h ((sg_le hr).1.mpr q)))] at k'
    exact k'
theorem kt_24 (hc : CW z σ ad) (hs : gj_St z op sg aO aS mO mS) (hl : CLk w ad) (hS : SLS w S) (hf : f + 1 < 251) (hk : (S f).1 = (S (f + 1)).1) (k : ∀ w', SF w w' → SLS w' S → Q (.returned (some (.int (b2i (sp_bool 24 (S f) (S (f + 1))))))) (ov σ ad 21 w')) :
    Go z l mt_K_isTrue (d + 18) 0 [.ref (ad 20), .ref (op 24), .int (nI f)] [] (ov σ ad 21 w) Q := by
  obtain ⟨ha, a4⟩ := hS f (by omega)
  obtain ⟨hb, b4⟩ := hS (f + 1) hf
  have k' := k w (SF.refl w) hS
  refine cs_K_isTrue_o24 (d := d + 9) hc hs hl ?_
  rw [nI_1]
  refine cl_compare (d := d + 7) hc hl (by omega) hf ha hb a4 b4 hk (fun r hr _ => gj_nextI (cs_K_isTrue_165 (d := d + 9) (v1 := 24) hc hs (fun h => ?_) (fun h => ?_)))
  · rw [show sp_bool 24 (S f) (S (f + 1)) = false from decide_eq_false (fun q => (i32_nlt.mpr h) ((sg_le hr).1.mpr q))] at k'
    exact k'
  · rw [show sp_bool 24 (S f) (S (f + 1)) = true from decide_eq_true ((sg_le hr).1.mp (Decidable.not_not.mp (fun q => h (i32_nlt.mp q))))] at k'
    exact k'
theorem kt_25 (hc : CW z σ ad) (hs : gj_St z op sg aO aS mO mS) (hl : CLk w ad) (hS : SLS w S) (hf : f + 1 < 251) (hk : (S f).1 = (S (f + 1)).1) (k : ∀ w', SF w w' → SLS w' S → Q (.returned (some (.int (b2i (sp_bool 25 (S f) (S (f + 1))))))) (ov σ ad 21 w')) :
    Go z l mt_K_isTrue (d + 18) 0 [.ref (ad 20), .ref (op 25), .int (nI f)] [] (ov σ ad 21 w) Q := by
  obtain ⟨ha, a4⟩ := hS f (by omega)
  obtain ⟨hb, b4⟩ := hS (f + 1) hf
  have k' := k w (SF.refl w) hS
  refine cs_K_isTrue_o25 (d := d + 9) hc hs hl ?_
  rw [nI_1]
  refine cl_compare (d := d + 7) hc hl (by omega) hf ha hb a4 b4 hk (fun r hr _ => gj_nextI (cs_K_isTrue_185 (d := d + 9) (v1 := 25) hc hs (fun h => ?_) (fun h => ?_)))
  · rw [show sp_bool 25 (S f) (S (f + 1)) = false from decide_eq_false (fun q => q ((sg_le hr).2.2.mp h))] at k'
    exact k'
  · rw [show sp_bool 25 (S f) (S (f + 1)) = true from decide_eq_true (fun q => h ((sg_le hr).2.2.mpr q))] at k'
    exact k'
theorem kt_26 (hc : CW z σ ad) (hs : gj_St z op sg aO aS mO mS) (hl : CLk w ad) (hS : SLS w S) (hf : f + 1 < 251) (h1 : (S f).1 = 1) (h2 : (S (f + 1)).1 = 1) (k : ∀ w', SF w w' → SLS w' S → Q (.returned (some (.int (b2i (sp_bool 26 (S f) (S (f + 1))))))) (ov σ ad 21 w')) :
    Go z l mt_K_isTrue (d + 18) 0 [.ref (ad 20), .ref (op 26), .int (nI f)] [] (ov σ ad 21 w) Q := by
  refine cs_K_isTrue_o26 (d := d + 9) hc hs hl ?_
  rw [nI_1]
  exact cl_like (d := d + 7) hc hl hS (by omega) hf h1 h2 (fun w' hf' hS' _ => gj_nextI (cs_K_isTrue_73 (d := d + 9) (v1 := 26) hc hs (nbb _) (k w' hf' hS')))
theorem va_up_id {α : Type} (S : Nat → α) (s : Nat) : va_up S s (S s) = S := by
  funext j
  unfold va_up
  split
  · rename_i h; rw [h]
  · rfl
/-- the texts that strict steps give -/
def sp_text (o : Nat) (a b c : Va) : Int32 × Va := match o with
  | 27 => if 40 < a.2.2.length + b.2.2.length then (5, a) else (0, (1, lN (a.2.2 ++ b.2.2).length, a.2.2 ++ b.2.2))
  | 37 => (0, (1, lN (a.2.2.map (sp_let 1)).length, a.2.2.map (sp_let 1)))
  | 38 => (0, (1, lN (a.2.2.map (sp_let 0)).length, a.2.2.map (sp_let 0)))
  | _ => if c.2.1 < 0 then (6, a) else (0, (1, lN (sp_cut a.2.2 b.2.1.toInt c.2.1.toInt).length, sp_cut a.2.2 b.2.1.toInt c.2.1.toInt))
theorem kx_27 (hc : CW z σ ad) (hs : gj_St z op sg aO aS mO mS) (hl : CLk w ad) (hS : KS w S t 0) (hf : f + 1 < 251) (h1 : (S f).1 = 1) (h2 : (S (f + 1)).1 = 1) {c : Va} (k : ∀ w', KF w w' → KS w' (va_up S f (sp_text 27 (S f) (S (f + 1)) c).2) t (sp_text 27 (S f) (S (f + 1)) c).1 → Q (.returned none) (ov σ ad 21 w')) :
    Go z l mt_K_changeText (d + 18) 0 [.ref (ad 20), .ref (op 27), .int (nI f)] [] (ov σ ad 21 w) Q := by
  refine cs_K_changeText_o27 (d := d + 9) hc hs hl ?_
  rw [nI_1]
  refine cl_join (d := d + 8) hc hl hS.1 (by omega) hf (by omega) h1 h2 (fun h _ => gj_nextI (cs_K_changeText_80 (d := d + 9) (v1 := 27) hc hs (fun _ => k _ (kf_e _ _) ?_) (fun q => absurd rfl q))) (fun h w' hf' hS' _ => gj_nextI (cs_K_changeText_80 (d := d + 9) (v1 := 27) hc hs (fun q => absurd q (by decide)) (fun _ => k _ (hf'.kf.trans (kf_e _ _)) ?_)))
  · rw [show sp_text 27 (S f) (S (f + 1)) c = (5, S f) from if_pos h, va_up_id]
    exact hS.err 5
  · rw [show sp_text 27 (S f) (S (f + 1)) c = (0, (1, lN ((S f).2.2 ++ (S (f + 1)).2.2).length, (S f).2.2 ++ (S (f + 1)).2.2)) from if_neg (by omega)]
    exact (hS.sf hf' hS').err 0
theorem kx_37 (hc : CW z σ ad) (hs : gj_St z op sg aO aS mO mS) (hl : CLk w ad) (hS : KS w S t 0) (hf : f < 251) (h1 : (S f).1 = 1) {b c : Va} (k : ∀ w', KF w w' → KS w' (va_up S f (sp_text 37 (S f) b c).2) t (sp_text 37 (S f) b c).1 → Q (.returned none) (ov σ ad 21 w')) :
    Go z l mt_K_changeText (d + 18) 0 [.ref (ad 20), .ref (op 37), .int (nI f)] [] (ov σ ad 21 w) Q := by
  refine cs_K_changeText_o37 (d := d + 9) hc hs hl ?_
  exact cl_letters (d := d + 8) hc hl hS.1 hf h1 (fun w' hf' hS' _ => gj_nextV (cs_K_changeText_53 (d := d + 9) (v1 := 37) hc hs (k _ hf'.kf (hS.sf hf' hS'))))
theorem kx_38 (hc : CW z σ ad) (hs : gj_St z op sg aO aS mO mS) (hl : CLk w ad) (hS : KS w S t 0) (hf : f < 251) (h1 : (S f).1 = 1) {b c : Va} (k : ∀ w', KF w w' → KS w' (va_up S f (sp_text 38 (S f) b c).2) t (sp_text 38 (S f) b c).1 → Q (.returned none) (ov σ ad 21 w')) :
    Go z l mt_K_changeText (d + 18) 0 [.ref (ad 20), .ref (op 38), .int (nI f)] [] (ov σ ad 21 w) Q := by
  refine cs_K_changeText_o38 (d := d + 9) hc hs hl ?_
  exact cl_letters (d := d + 8) hc hl hS.1 hf h1 (fun w' hf' hS' _ => gj_nextV (cs_K_changeText_65 (d := d + 9) (v1 := 38) hc hs (k _ hf'.kf (hS.sf hf' hS'))))
theorem kx_39 (hc : CW z σ ad) (hs : gj_St z op sg aO aS mO mS) (hl : CLk w ad) (hS : KS w S t 0) (hf : f + 2 < 251) (h1 : (S f).1 = 1) (h2 : (S (f + 1)).1 = 0) (h3 : (S (f + 2)).1 = 0) (v2 : v_in (S (f + 1))) (v3 : v_in (S (f + 2))) (k : ∀ w', KF w w' → KS w' (va_up S f (sp_text 39 (S f) (S (f + 1)) (S (f + 2))).2) t (sp_text 39 (S f) (S (f + 1)) (S (f + 2))).1 → Q (.returned none) (ov σ ad 21 w')) :
    Go z l mt_K_changeText (d + 18) 0 [.ref (ad 20), .ref (op 39), .int (nI f)] [] (ov σ ad 21 w) Q := by
  obtain ⟨⟨-, a2, -⟩, -⟩ := hS.1 (f + 1) (by omega)
  obtain ⟨⟨-, b2, -⟩, -⟩ := hS.1 (f + 2) (by omega)
  have p2 : nI f + 2 = nI (f + 2) := by rw [show (2 : Int32) = nI 2 from rfl, nI_add]
  obtain ⟨u1, u2⟩ := v2 h2
  obtain ⟨u3, u4⟩ := v3 h3
  have e0 : (0 : Int64).toInt = 0 := by decide
  refine cs_K_changeText_o39 (d := d + 9) hc hs hl (by rw [nI_1]; exact vp_in_nI (by omega) (by omega)) (by rw [p2]; exact vp_in_nI (by omega) (by omega)) ?_
  rw [nI_1, p2, nI_clamp (n := f + 1) (by omega), nI_clamp (n := f + 2) (by omega), a2, b2]
  refine cs_K_cut (d := d + 8) hc hl (fun h => ?_) (fun h _ => gj_nextV (cs_K_changeText_121 (d := d + 9) (v1 := 39) hc hs (k _ (kf_e _ _) ?_)))
  · rw [lg_cmp_ge] at h
    have hn : ¬ (S (f + 2)).2.1 < 0 := fun q => by
      have := Int64.lt_iff_toInt_lt.mp q
      have := Int64.le_iff_toInt_le.mp h
      omega
    have hn0 : 0 ≤ (S (f + 2)).2.1.toInt := by have := Int64.le_iff_toInt_le.mp h; omega
    refine cl_cut (d := d + 7) hc hl hS.1 (by omega) h1 u1 u2 hn0 u4 (fun w' hf' hS' _ => gj_nextV (cs_K_cut_27 (d := d + 8) hc (fun _ => gj_nextV (cs_K_changeText_121 (d := d + 9) (v1 := 39) hc hs (k _ hf'.kf ?_)))))
    rw [show sp_text 39 (S f) (S (f + 1)) (S (f + 2)) = _ from if_neg hn]
    exact hS.sf hf' hS'
  · rw [lg_cmp_ge] at h
    have hn : (S (f + 2)).2.1 < 0 := Int64.lt_iff_toInt_lt.mpr (by
      have : ¬ (0 : Int64).toInt ≤ (S (f + 2)).2.1.toInt := fun q => h (Int64.le_iff_toInt_le.mpr q)
      omega)
    rw [show sp_text 39 (S f) (S (f + 1)) (S (f + 2)) = (6, S f) from if_pos hn, va_up_id]
    exact hS.err 6
theorem ks_stext {o n : Nat} (hp : KP z σ ad op sg aO aS mO mS ko w len) (hS : KS w S t 0) (hn : 1 ≤ n) (h8 : 9 ≤ f) (hf : f + n = t + 1) (ht : t < 251) (hat : at_ < len) (ho : ko at_ = o) (ho2 : o < 43) (hst : ¬ op_strict.getD o 0 = 0) (hres : op_result.getD o 0 = 1) (ha : w.eJ 10 at_ = lN n) {x : Int32 × Va}
    (kt : nul S f n = false → ∀ w0 : Wd, CLk w0 ad → KS w0 S f 0 → ∀ Q' : Outcome → Hp → Prop, (∀ w', KF w0 w' → KS w' (va_up S f x.2) f x.1 → Q' (.returned none) (ov σ ad 21 w')) → Go z l mt_K_changeText (d + 18) 0 [.ref (ad 20), .ref (op o), .int (nI f)] [] (ov σ ad 21 w0) Q')
    (k0 : nul S f n = true → ∀ w', KF w w' → KS w' (va_up S f (3, 0, [])) f 0 → HD z l d σ ad Q w' (at_ + 1))
    (k1 : nul S f n = false → ∀ w', KF w w' → KS w' (va_up S f x.2) f x.1 → HD z l d σ ad Q w' (at_ + 1)) : HD z l d σ ad Q w at_ := by
  have hp0 := hp
  obtain ⟨hc, hs, hl, hro, hlen, hle⟩ := hp
  refine kh_strict hc hs hl hro hlen hle hat hS.2.2 ho hst ha (fun Q' j0 => ?_)
  rw [lN_i]
  refine ks_strict0 hp0 hS hn h8 hf ht ho2 (fun hb w' hf' hS' => j0 _ (k0 hb _ hf' hS')) (fun hb => ?_)
  have q : w.I 20 37 < nI (t + 1) := by rw [hS.2.1]; exact nI_lt (by omega) (by omega)
  have e1 : (if w.I 20 37 - (nI n - 1) < 8 then 8 else w.I 20 37 - (nI n - 1)) = nI f := by
    rw [hS.2.1, show nI n - 1 = nI (n - 1) from pk_sub (b := 1) (by omega), show f = t - (n - 1) by omega]
    exact k_drop (by omega) (by omega)
  refine cs_K_closeStrict_12 (d := d + 10) hc hs hl ho2 (fun _ _ _ h => absurd hres h) (fun _ _ _ _ => ?_) (fun _ _ h => absurd h (by rw [hres]; decide)) (fun _ h => absurd rfl h) (fun _ h => absurd rfl h) (fun _ h => absurd rfl h) (fun h => absurd q h) (fun h => absurd q h) (fun h => absurd q h) (fun h => absurd q h)
  rw [e1]
  exact kt hb (w.setI 20 37 (nI f)) ((kf_t w (nI f)).link hl) hS.top _ (fun w' hf' hS' _ => gj_nextV (cs_K_closeStrict_113 (d := d + 10) (v1 := o) hc hs (j0 _ (k1 hb _ ((kf_t w _).trans hf') hS'))))
end ClStrict
