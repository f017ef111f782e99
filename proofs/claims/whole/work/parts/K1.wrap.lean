/-! ===== the law's wrappers. Printed by wip/tools/layk.py ===== -/
section Wrap
variable {z : State} {l : Launch} {d : Nat} {H : Hp} {ad am op sg : Nat → Nat} {aO aS mO mS : Nat} {ac ar : Ab} {bc ou c s : Nat} {Q : Outcome → Hp → Prop}
theorem go_hol {M : Mt} {d pc n : Nat} {ls st : List Value} {σ : Hp} (hn : ls.length = n) (k : Go z l M d pc (List.replicate n (.retAddr 0)) st σ Q) : Go z l M d pc ls st σ Q :=
  go_fgt (by rw [hn]; exact List.length_replicate) (fun i v hi hv => absurd (List.eq_of_mem_replicate (List.mem_of_getElem? hi)) hv) k
theorem SameC.rowJ {σ : Hp} {a b : Nat} {v : Nat → Int64} (h : a ≠ b) : SameC σ (σ.rowJ b v) a := ⟨rfl, rfl, fun g => ⟨rfl, rfl, rfl⟩, rfl, hp_up_ne _ _ h, rfl⟩
/-- what a wrapper leaves -/
def WQ (z : State) (am op sg : Nat → Nat) (aO aS mO mS : Nat) (a' ar : Ab) (bc ou c s : Nat) (H : Hp) (h0 code : Nat) (val : Option Int64) (Q : Outcome → Hp → Prop) : Prop := ∀ H' ad', JI z H' ad' am op sg aO aS mO mS a' ar bc ou (c + 1) (s + 6) → ad' 0 = h0 → (∀ b, b < z.heap.size → SameC H H' b) → (code = 0 → ∀ v, val = some v → H'.eJ ou 0 = v) → Q (.returned (some (.int (nI code)))) H'
theorem JI.retv {ad' : Nat → Nat} {w' : Wd} {a' : Ab} (h : JI z H ad am op sg aO aS mO mS ac ar bc ou c s) (hw : hp_wf H) (hC : CI z H ad' op sg aO aS mO mS w' a') (had : ∀ i, i < 21 → ad' i < bc) : JI z (ov H ad' 21 w') ad' am op sg aO aS mO mS a' ar bc ou (c + 1) (s + 6) ∧ ∀ b, b < z.heap.size → SameC H (ov H ad' 21 w') b := by
  have f : ∀ x, bc ≤ x ∨ x < z.heap.size → SameC H (ov H ad' 21 w') x := fun x hx => sc_ovn (fun i hi e => by
    have h1 := had i hi
    have h2 := (hC.1.1.2 i hi).2.2
    omega)
  exact ⟨h.cls hw (ov_reN (σ := H) hC.1.1.1 (fun i _ => SameC.rfl' _ _)) hC had (fun x _ _ hx => f x hx) ⟨Nat.le_refl _, Nat.le_refl _, fun _ _ => ⟨rfl, rfl⟩⟩ (Nat.le_succ _) (Nat.le_add_right _ _), fun b hb => f b (Or.inr hb)⟩
theorem JI.ret {ad' : Nat → Nat} {w' : Wd} {a' : Ab} {v : Int64} (h : JI z H ad am op sg aO aS mO mS ac ar bc ou c s) (hw : hp_wf H) (hC : CI z H ad' op sg aO aS mO mS w' a') (had : ∀ i, i < 21 → ad' i < bc) : JI z ((ov H ad' 21 w').rowJ ou (va_up ((ov H ad' 21 w').eJ ou) (0 : Int32).toNatClampNeg v)) ad' am op sg aO aS mO mS a' ar bc ou (c + 1) (s + 6) ∧ (∀ b, b < z.heap.size → SameC H ((ov H ad' 21 w').rowJ ou (va_up ((ov H ad' 21 w').eJ ou) (0 : Int32).toNatClampNeg v)) b) ∧ ((ov H ad' 21 w').rowJ ou (va_up ((ov H ad' 21 w').eJ ou) (0 : Int32).toNatClampNeg v)).eJ ou 0 = v := by
  obtain ⟨wr, -, hm⟩ := h.2.1
  obtain ⟨u1, u2, u3, u4, -⟩ := hm.oux
  have f : ∀ x, x ≠ ou → bc ≤ x ∨ x < z.heap.size → SameC H ((ov H ad' 21 w').rowJ ou (va_up ((ov H ad' 21 w').eJ ou) (0 : Int32).toNatClampNeg v)) x := fun x ho hx => (sc_ovn (fun i hi e => by
    have h1 := had i hi
    have h2 := (hC.1.1.2 i hi).2.2
    omega)).trans (SameC.rowJ ho)
  refine ⟨h.cls hw (ov_reN (σ := H) hC.1.1.1 (fun i hi => SameC.rowJ (by have := had i hi; omega))) hC had (fun x _ ho hx => f x ho hx) ⟨Nat.le_refl _, Nat.le_refl _, fun _ _ => ⟨rfl, rfl⟩⟩ (Nat.le_succ _) (Nat.le_add_right _ _), fun b hb => f b (by omega) (Or.inr hb), ?_⟩
  show va_up (ov H ad' 21 w').eJ ou (va_up ((ov H ad' 21 w').eJ ou) (0 : Int32).toNatClampNeg v) ou 0 = v
  rw [hp_up_same]
  exact hp_up_same _ _ _
theorem JI.thr {w' : Wd} {a' : Ab} {t : Nat} (h : JI z H ad am op sg aO aS mO mS ac ar bc ou c s) (hw : hp_wf H) (hC : CI z H ad op sg aO aS mO mS w' a') (had : ∀ i, i < 21 → ad i < bc) : JI z (ov (H.newO t 6) ad 21 w') ad am op sg aO aS mO mS a' ar bc ou (c + 1) (s + 6) ∧ ∀ b, b < z.heap.size → SameC H (ov (H.newO t 6) ad 21 w') b := by
  obtain ⟨wr, -, hm⟩ := h.2.1
  obtain ⟨u1, u2, u3, u4, u5, -⟩ := hm.oux
  have f : ∀ x, x < H.nx → bc ≤ x ∨ x < z.heap.size → SameC H (ov (H.newO t 6) ad 21 w') x := fun x hn hx => (SameC.newO hn).trans (sc_ovn (fun i hi e => by
    have h1 := had i hi
    have h2 := (hC.1.1.2 i hi).2.2
    omega))
  have hle := hp_Le.newO hw t 6
  exact ⟨h.cls hw (ov_reN (σ := H.newO t 6) hC.1.1.1 (fun i _ => SameC.rfl' _ _)) hC had (fun x hn _ hx => f x hn hx) ⟨hle.1, hle.2.1, hle.2.2⟩ (Nat.le_refl _) (Nat.le_refl _), fun b hb => f b (by omega) (Or.inr hb)⟩
theorem wa_split_feed : tableOf mt_A_feed.hh = [] ++ (⟨0, 16, 19, 13⟩ : ExceptionTableEntry) :: [] := rfl
theorem kw_feed {x1 : Int32} {x2 : Int32} {x3 : Int32} {x4 : Int32} {x5 : Int32} (h : JI z H ad am op sg aO aS mO mS ac ar bc ou c s) (ha : ac.ok) (k : WQ z am op sg aO aS mO mS (sp_feed x1 x2 x3 x4 x5 ac).2.2 ar bc ou c s H (ad 0) (sp_feed x1 x2 x3 x4 x5 ac).1 (some (sp_feed x1 x2 x3 x4 x5 ac).2.1.toInt64) Q) : Go z l mt_A_feed (d + 11) 0 [.ref (ad 0), .int x1, .int x2, .int x3, .int x4, .int x5, .ref ou, .retAddr 0] [] H Q := by
  refine go_wf fun hw => ?_
  obtain ⟨wc, ec, hc⟩ := h.1
  obtain ⟨wr, -, hm⟩ := h.2.1
  obtain ⟨u1, u2, u3, u4, u5, -⟩ := hm.oux
  have had := h.2.2.1
  refine la_feed (d := d + 2) (hc.1.1.2 0 (by decide)).1 ?_
  have G : ∀ Q' : Outcome → Hp → Prop, ((sp_feed x1 x2 x3 x4 x5 ac).1 = 0 → ∀ w', CI z H ad op sg aO aS mO mS w' (sp_feed x1 x2 x3 x4 x5 ac).2.2 → Q' (.returned (some (.int (sp_feed x1 x2 x3 x4 x5 ac).2.1))) (ov H ad 21 w')) → ((sp_feed x1 x2 x3 x4 x5 ac).1 = 1 → (sp_feed x1 x2 x3 x4 x5 ac).2.2 = ac → Q' (.threw H.nx) (ov (H.newO 14 6) ad 21 wc)) → Go z l mt_T_feed (d + 10) 0 [.ref (ad 0), .int x1, .int x2, .int x3, .int x4, .int x5] [] H Q' := fun Q' k0 k1 => by
    have g := ac_feed (l := l) (d := d) (Q := Q') hc ha.1 k0 k1
    rw [← ec] at g
    exact g
  refine G _ (fun e w' hC hle => gj_nextI ?_) (fun e ea hle => gj_nextT ?_)
  · refine la_feed_14 (d := d + 2) u1 u4 (by show vp_in 0 (H.len ou); rw [h.2.2.2]; exact vp_in_nI (n := 0) (by decide) (by decide)) ?_
    obtain ⟨j1, j2, j3⟩ := h.ret hw hC had (v := (sp_feed x1 x2 x3 x4 x5 ac).2.1.toInt64)
    have g := k _ ad j1 rfl j2 (fun _ v9 h9 => by cases h9; exact j3)
    rw [e] at g
    exact g
  · refine go_catch (t := 14) [] ⟨0, 16, 19, 13⟩ [] wa_split_feed (fun y hy => absurd hy List.not_mem_nil) rfl (by decide) mw_234 ml_241 (by decide) (hp_up_same _ _ _) (Nat.le_of_lt (Nat.lt_of_le_of_lt u4 u5)) (go_hol (n := 8) rfl (la_feed_19 (d := d + 2) ?_))
    obtain ⟨j1, j2⟩ := h.thr hw hc had (t := 14)
    rw [ea] at k
    have g := k _ ad j1 rfl j2 (fun h9 => absurd (e.symm.trans h9) (by decide))
    rw [e] at g
    exact g
theorem wa_split_end : tableOf mt_A_end.hh = [] ++ (⟨0, 9, 12, 19⟩ : ExceptionTableEntry) :: [] := rfl
theorem kw_end {x1 : Int32} (h : JI z H ad am op sg aO aS mO mS ac ar bc ou c s) (ha : ac.ok) (k : WQ z am op sg aO aS mO mS (sp_end x1 ac).2.2 ar bc ou c s H (ad 0) (sp_end x1 ac).1 (some (sp_end x1 ac).2.1.toInt64) Q) : Go z l mt_A_end (d + 10) 0 [.ref (ad 0), .int x1, .ref ou, .retAddr 0] [] H Q := by
  refine go_wf fun hw => ?_
  obtain ⟨wc, ec, hc⟩ := h.1
  obtain ⟨wr, -, hm⟩ := h.2.1
  obtain ⟨u1, u2, u3, u4, u5, -⟩ := hm.oux
  have had := h.2.2.1
  refine la_end (d := d + 1) (hc.1.1.2 0 (by decide)).1 ?_
  have G : ∀ Q' : Outcome → Hp → Prop, ((sp_end x1 ac).1 = 0 → ∀ w', CI z H ad op sg aO aS mO mS w' (sp_end x1 ac).2.2 → Q' (.returned (some (.int (sp_end x1 ac).2.1))) (ov H ad 21 w')) → ((sp_end x1 ac).1 = 1 → (sp_end x1 ac).2.2 = ac → Q' (.threw H.nx) (ov (H.newO 15 6) ad 21 wc)) → Go z l mt_T_end (d + 9) 0 [.ref (ad 0), .int x1] [] H Q' := fun Q' k0 k1 => by
    have g := ac_end (l := l) (d := d) (Q := Q') hc ha.1 k0 k1
    rw [← ec] at g
    exact g
  refine G _ (fun e w' hC hle => gj_nextI ?_) (fun e ea hle => gj_nextT ?_)
  · refine la_end_7 (d := d + 1) u1 u4 (by show vp_in 0 (H.len ou); rw [h.2.2.2]; exact vp_in_nI (n := 0) (by decide) (by decide)) ?_
    obtain ⟨j1, j2, j3⟩ := h.ret hw hC had (v := (sp_end x1 ac).2.1.toInt64)
    have g := k _ ad j1 rfl j2 (fun _ v9 h9 => by cases h9; exact j3)
    rw [e] at g
    exact g
  · refine go_catch (t := 15) [] ⟨0, 9, 12, 19⟩ [] wa_split_end (fun y hy => absurd hy List.not_mem_nil) rfl (by decide) mw_313 ml_323 (by decide) (hp_up_same _ _ _) (Nat.le_of_lt (Nat.lt_of_le_of_lt u4 u5)) (go_hol (n := 4) rfl (la_end_12 (d := d + 1) ?_))
    obtain ⟨j1, j2⟩ := h.thr hw hc had (t := 15)
    rw [ea] at k
    have g := k _ ad j1 rfl j2 (fun h9 => absurd (e.symm.trans h9) (by decide))
    rw [e] at g
    exact g
theorem wa_split_clear : tableOf mt_A_clear.hh = [] ++ (⟨0, 6, 9, 19⟩ : ExceptionTableEntry) :: [] := rfl
theorem kw_clear {x1 : Int32} {x2 : Int32} (h : JI z H ad am op sg aO aS mO mS ac ar bc ou c s) (ha : ac.ok) (k : WQ z am op sg aO aS mO mS (sp_clear x1 x2 ac).2 ar bc ou c s H (ad 0) (sp_clear x1 x2 ac).1 none Q) : Go z l mt_A_clear (d + 10) 0 [.ref (ad 0), .int x1, .int x2, .retAddr 0] [] H Q := by
  refine go_wf fun hw => ?_
  obtain ⟨wc, ec, hc⟩ := h.1
  obtain ⟨wr, -, hm⟩ := h.2.1
  obtain ⟨u1, u2, u3, u4, u5, -⟩ := hm.oux
  have had := h.2.2.1
  refine la_clear (d := d + 1) (hc.1.1.2 0 (by decide)).1 ?_
  have G : ∀ Q' : Outcome → Hp → Prop, ((sp_clear x1 x2 ac).1 = 0 → ∀ w', CI z H ad op sg aO aS mO mS w' (sp_clear x1 x2 ac).2 → Q' (.returned none) (ov H ad 21 w')) → ((sp_clear x1 x2 ac).1 = 1 → (sp_clear x1 x2 ac).2 = ac → Q' (.threw H.nx) (ov (H.newO 15 6) ad 21 wc)) → Go z l mt_T_clear (d + 9) 0 [.ref (ad 0), .int x1, .int x2] [] H Q' := fun Q' k0 k1 => by
    have g := ac_clear (l := l) (d := d) (Q := Q') hc  k0 k1
    rw [← ec] at g
    exact g
  refine G _ (fun e w' hC hle => gj_nextV ?_) (fun e ea hle => gj_nextT ?_)
  · refine la_clear_6 (d := d + 1) ?_
    obtain ⟨j1, j2⟩ := h.retv hw hC had
    have g := k _ ad j1 rfl j2 (fun _ v9 h9 => nomatch h9)
    rw [e] at g
    exact g
  · refine go_catch (t := 15) [] ⟨0, 6, 9, 19⟩ [] wa_split_clear (fun y hy => absurd hy List.not_mem_nil) rfl (by decide) mw_313 ml_323 (by decide) (hp_up_same _ _ _) (Nat.le_of_lt (Nat.lt_of_le_of_lt u4 u5)) (go_hol (n := 4) rfl (la_clear_9 (d := d + 1) ?_))
    obtain ⟨j1, j2⟩ := h.thr hw hc had (t := 15)
    rw [ea] at k
    have g := k _ ad j1 rfl j2 (fun h9 => absurd (e.symm.trans h9) (by decide))
    rw [e] at g
    exact g
theorem wa_split_set : tableOf mt_A_set.hh = [] ++ (⟨0, 6, 9, 19⟩ : ExceptionTableEntry) :: [] := rfl
theorem kw_set {x1 : Int32} {x2 : Int64} (h : JI z H ad am op sg aO aS mO mS ac ar bc ou c s) (ha : ac.ok) (k : WQ z am op sg aO aS mO mS (sp_set x1 x2 ac).2 ar bc ou c s H (ad 0) (sp_set x1 x2 ac).1 none Q) : Go z l mt_A_set (d + 10) 0 [.ref (ad 0), .int x1, .long x2, .retAddr 0, .retAddr 0] [] H Q := by
  refine go_wf fun hw => ?_
  obtain ⟨wc, ec, hc⟩ := h.1
  obtain ⟨wr, -, hm⟩ := h.2.1
  obtain ⟨u1, u2, u3, u4, u5, -⟩ := hm.oux
  have had := h.2.2.1
  refine la_set (d := d + 1) (hc.1.1.2 0 (by decide)).1 ?_
  have G : ∀ Q' : Outcome → Hp → Prop, ((sp_set x1 x2 ac).1 = 0 → ∀ w', CI z H ad op sg aO aS mO mS w' (sp_set x1 x2 ac).2 → Q' (.returned none) (ov H ad 21 w')) → ((sp_set x1 x2 ac).1 = 1 → (sp_set x1 x2 ac).2 = ac → Q' (.threw H.nx) (ov (H.newO 15 6) ad 21 wc)) → Go z l mt_T_set (d + 9) 0 [.ref (ad 0), .int x1, .long x2, .retAddr 0] [] H Q' := fun Q' k0 k1 => by
    have g := ac_set (l := l) (d := d) (Q := Q') hc  k0 k1
    rw [← ec] at g
    exact g
  refine G _ (fun e w' hC hle => gj_nextV ?_) (fun e ea hle => gj_nextT ?_)
  · refine la_set_6 (d := d + 1) ?_
    obtain ⟨j1, j2⟩ := h.retv hw hC had
    have g := k _ ad j1 rfl j2 (fun _ v9 h9 => nomatch h9)
    rw [e] at g
    exact g
  · refine go_catch (t := 15) [] ⟨0, 6, 9, 19⟩ [] wa_split_set (fun y hy => absurd hy List.not_mem_nil) rfl (by decide) mw_313 ml_323 (by decide) (hp_up_same _ _ _) (Nat.le_of_lt (Nat.lt_of_le_of_lt u4 u5)) (go_hol (n := 5) rfl (la_set_9 (d := d + 1) ?_))
    obtain ⟨j1, j2⟩ := h.thr hw hc had (t := 15)
    rw [ea] at k
    have g := k _ ad j1 rfl j2 (fun h9 => absurd (e.symm.trans h9) (by decide))
    rw [e] at g
    exact g
theorem wa_split_text : tableOf mt_A_text.hh = [] ++ (⟨0, 5, 8, 19⟩ : ExceptionTableEntry) :: [] := rfl
theorem kw_text {x1 : Int32} (h : JI z H ad am op sg aO aS mO mS ac ar bc ou c s) (ha : ac.ok) (k : WQ z am op sg aO aS mO mS (sp_txt x1 ac).2 ar bc ou c s H (ad 0) (sp_txt x1 ac).1 none Q) : Go z l mt_A_text (d + 11) 0 [.ref (ad 0), .int x1, .retAddr 0] [] H Q := by
  refine go_wf fun hw => ?_
  obtain ⟨wc, ec, hc⟩ := h.1
  obtain ⟨wr, -, hm⟩ := h.2.1
  obtain ⟨u1, u2, u3, u4, u5, -⟩ := hm.oux
  have had := h.2.2.1
  refine la_text (d := d + 2) (hc.1.1.2 0 (by decide)).1 ?_
  have G : ∀ Q' : Outcome → Hp → Prop, ((sp_txt x1 ac).1 = 0 → ∀ w', CI z H ad op sg aO aS mO mS w' (sp_txt x1 ac).2 → Q' (.returned none) (ov H ad 21 w')) → ((sp_txt x1 ac).1 = 1 → ∀ w', CI z H ad op sg aO aS mO mS w' (sp_txt x1 ac).2 → Q' (.threw H.nx) (ov (H.newO 15 6) ad 21 w')) → Go z l mt_T_text (d + 10) 0 [.ref (ad 0), .int x1, .retAddr 0] [] H Q' := fun Q' k0 k1 => by
    have g := ac_text (l := l) (d := d) (Q := Q') hc ha.1 k0 k1
    rw [← ec] at g
    exact g
  refine G _ (fun e w' hC hle => gj_nextV ?_) (fun e w' hC hle => gj_nextT ?_)
  · refine la_text_5 (d := d + 2) ?_
    obtain ⟨j1, j2⟩ := h.retv hw hC had
    have g := k _ ad j1 rfl j2 (fun _ v9 h9 => nomatch h9)
    rw [e] at g
    exact g
  · refine go_catch (t := 15) [] ⟨0, 5, 8, 19⟩ [] wa_split_text (fun y hy => absurd hy List.not_mem_nil) rfl (by decide) mw_313 ml_323 (by decide) (hp_up_same _ _ _) (Nat.le_of_lt (Nat.lt_of_le_of_lt u4 u5)) (go_hol (n := 3) rfl (la_text_8 (d := d + 2) ?_))
    obtain ⟨j1, j2⟩ := h.thr hw hC had (t := 15)
    have g := k _ ad j1 rfl j2 (fun h9 => absurd (e.symm.trans h9) (by decide))
    rw [e] at g
    exact g
theorem wa_split_read : tableOf mt_A_read.hh = [] ++ (⟨0, 8, 11, 37⟩ : ExceptionTableEntry) :: [] := rfl
theorem kw_read  (h : JI z H ad am op sg aO aS mO mS ac ar bc ou c s) (ha : ac.ok) (k : WQ z am op sg aO aS mO mS (sp_rd ac).2.2 ar bc ou c s H (ad 0) (sp_rd ac).1 (some (sp_rd ac).2.1.toInt64) Q) : Go z l mt_A_read (d + 402) 0 [.ref (ad 0), .ref ou, .retAddr 0] [] H Q := by
  refine go_wf fun hw => ?_
  obtain ⟨wc, ec, hc⟩ := h.1
  obtain ⟨wr, -, hm⟩ := h.2.1
  obtain ⟨u1, u2, u3, u4, u5, -⟩ := hm.oux
  have had := h.2.2.1
  refine la_read (d := d + 393) (hc.1.1.2 0 (by decide)).1 ?_
  have G : ∀ Q' : Outcome → Hp → Prop, ((sp_rd ac).1 = 0 → ∀ ad' w', ad' 0 = ad 0 → (∀ i, i < 21 → ∃ j, j < 21 ∧ ad' i = ad j) → CI z H ad' op sg aO aS mO mS w' (sp_rd ac).2.2 → Q' (.returned (some (.int (sp_rd ac).2.1))) (ov H ad' 21 w')) → ((sp_rd ac).1 = 1 → ∀ w', CI z H ad op sg aO aS mO mS w' (sp_rd ac).2.2 → Q' (.threw H.nx) (ov (H.newO 16 6) ad 21 w')) → Go z l mt_T_read (d + 401) 0 [.ref (ad 0), .retAddr 0, .retAddr 0] [] H Q' := fun Q' k0 k1 => by
    have g := ac_read (l := l) (d := d) (Q := Q') hc ha.1 k0 k1
    rw [← ec] at g
    exact g
  refine G _ (fun e ad' w' h0 hj hC hle => gj_nextI ?_) (fun e w' hC hle => gj_nextT ?_)
  · refine la_read_6 (d := d + 393) u1 u4 (by show vp_in 0 (H.len ou); rw [h.2.2.2]; exact vp_in_nI (n := 0) (by decide) (by decide)) ?_
    obtain ⟨j1, j2, j3⟩ := h.ret hw hC (fun i hi => by obtain ⟨j, hj1, hj2⟩ := hj i hi; rw [hj2]; exact had j hj1) (v := (sp_rd ac).2.1.toInt64)
    have g := k _ ad' j1 h0 j2 (fun _ v9 h9 => by cases h9; exact j3)
    rw [e] at g
    exact g
  · refine go_catch (t := 16) [] ⟨0, 8, 11, 37⟩ [] wa_split_read (fun y hy => absurd hy List.not_mem_nil) rfl (by decide) mw_393 ml_781 (by decide) (hp_up_same _ _ _) (Nat.le_of_lt (Nat.lt_of_le_of_lt u4 u5)) (go_hol (n := 3) rfl (la_read_11 (d := d + 393) ?_))
    obtain ⟨j1, j2⟩ := h.thr hw hC had (t := 16)
    have g := k _ ad j1 rfl j2 (fun h9 => absurd (e.symm.trans h9) (by decide))
    rw [e] at g
    exact g
theorem wa_split_kind : tableOf mt_A_kind.hh = [] ++ (⟨0, 8, 11, 42⟩ : ExceptionTableEntry) :: [⟨0, 8, 14, 44⟩] := rfl
theorem wa_split2_kind : tableOf mt_A_kind.hh = [⟨0, 8, 11, 42⟩] ++ (⟨0, 8, 14, 44⟩ : ExceptionTableEntry) :: [] := rfl
theorem kw_kind  (hz : va_Nc "java/lang/ArithmeticException" "java/lang/IllegalStateException" z) (h : JI z H ad am op sg aO aS mO mS ac ar bc ou c s) (ha : ac.ok) (k : WQ z am op sg aO aS mO mS (sp_kind ac).2.2 ar bc ou c s H (ad 0) (sp_kind ac).1 (some (sp_kind ac).2.1.toInt64) Q) : Go z l mt_A_kind (d + 23) 0 [.ref (ad 0), .ref ou, .retAddr 0] [] H Q := by
  refine go_wf fun hw => ?_
  obtain ⟨wc, ec, hc⟩ := h.1
  obtain ⟨wr, -, hm⟩ := h.2.1
  obtain ⟨u1, u2, u3, u4, u5, -⟩ := hm.oux
  have had := h.2.2.1
  refine la_kind (d := d + 14) (hc.1.1.2 0 (by decide)).1 ?_
  have G : ∀ Q' : Outcome → Hp → Prop, ((sp_kind ac).1 = 0 → (sp_kind ac).2.2 = ac → ∀ w', CI z H ad op sg aO aS mO mS w' ac → Q' (.returned (some (.int (sp_kind ac).2.1))) (ov H ad 21 w')) → ((sp_kind ac).1 = 1 → (sp_kind ac).2.2 = ac → Q' (.threw H.nx) (ov (H.newO 17 6) ad 21 wc)) → ((sp_kind ac).1 = 2 → ∀ w', CI z H ad op sg aO aS mO mS w' (sp_kind ac).2.2 → Q' (.threw H.nx) (ov (H.newO 18 6) ad 21 w')) → Go z l mt_T_kind (d + 22) 0 [.ref (ad 0)] [] H Q' := fun Q' k0 k1 k2 => by
    have g := ac_kind (l := l) (d := d) (Q := Q') hc  k0 k1 k2
    rw [← ec] at g
    exact g
  refine G _ (fun e ea w' hC hle => gj_nextI ?_) (fun e ea hle => gj_nextT ?_) (fun e w' hC hle => gj_nextT ?_)
  · refine la_kind_6 (d := d + 14) u1 u4 (by show vp_in 0 (H.len ou); rw [h.2.2.2]; exact vp_in_nI (n := 0) (by decide) (by decide)) ?_
    obtain ⟨j1, j2, j3⟩ := h.ret hw hC had (v := (sp_kind ac).2.1.toInt64)
    rw [ea] at k
    have g := k _ ad j1 rfl j2 (fun _ v9 h9 => by cases h9; exact j3)
    rw [e] at g
    exact g
  · refine go_catch (t := 17) [] ⟨0, 8, 11, 42⟩ [⟨0, 8, 14, 44⟩] wa_split_kind (fun y hy => absurd hy List.not_mem_nil) rfl (by decide) mw_797 ml_809 (by decide) (hp_up_same _ _ _) (Nat.le_of_lt (Nat.lt_of_le_of_lt u4 u5)) (go_hol (n := 3) rfl (la_kind_11 (d := d + 14) ?_))
    obtain ⟨j1, j2⟩ := h.thr hw hc had (t := 17)
    rw [ea] at k
    have g := k _ ad j1 rfl j2 (fun h9 => absurd (e.symm.trans h9) (by decide))
    rw [e] at g
    exact g
  · refine go_catch (t := 18) [⟨0, 8, 11, 42⟩] ⟨0, 8, 14, 44⟩ [] wa_split2_kind (fun y hy => Or.inr (by obtain rfl := List.mem_singleton.mp hy; exact ⟨by decide, _, mw_797, hz⟩)) rfl (by decide) mw_798 ml_865 (by decide) (hp_up_same _ _ _) (Nat.le_of_lt (Nat.lt_of_le_of_lt u4 u5)) (go_hol (n := 3) rfl (la_kind_14 (d := d + 14) ?_))
    obtain ⟨j1, j2⟩ := h.thr hw hC had (t := 18)
    have g := k _ ad j1 rfl j2 (fun h9 => absurd (e.symm.trans h9) (by decide))
    rw [e] at g
    exact g
theorem wa_split_work : tableOf mt_A_work.hh = [] ++ (⟨0, 8, 11, 42⟩ : ExceptionTableEntry) :: [⟨0, 8, 14, 44⟩] := rfl
theorem wa_split2_work : tableOf mt_A_work.hh = [⟨0, 8, 11, 42⟩] ++ (⟨0, 8, 14, 44⟩ : ExceptionTableEntry) :: [] := rfl
theorem kw_work  (hz : va_Nc "java/lang/ArithmeticException" "java/lang/IllegalStateException" z) (h : JI z H ad am op sg aO aS mO mS ac ar bc ou c s) (ha : ac.ok) (k : WQ z am op sg aO aS mO mS (sp_work ac).2.2 ar bc ou c s H (ad 0) (sp_work ac).1 (some (sp_work ac).2.1.toInt64) Q) : Go z l mt_A_work (d + 23) 0 [.ref (ad 0), .ref ou, .retAddr 0] [] H Q := by
  refine go_wf fun hw => ?_
  obtain ⟨wc, ec, hc⟩ := h.1
  obtain ⟨wr, -, hm⟩ := h.2.1
  obtain ⟨u1, u2, u3, u4, u5, -⟩ := hm.oux
  have had := h.2.2.1
  refine la_work (d := d + 14) (hc.1.1.2 0 (by decide)).1 ?_
  have G : ∀ Q' : Outcome → Hp → Prop, ((sp_work ac).1 = 0 → ∀ w', CI z H ad op sg aO aS mO mS w' (sp_work ac).2.2 → Q' (.returned (some (.int (sp_work ac).2.1))) (ov H ad 21 w')) → ((sp_work ac).1 = 1 → (sp_work ac).2.2 = ac → Q' (.threw H.nx) (ov (H.newO 17 6) ad 21 wc)) → ((sp_work ac).1 = 2 → ∀ w', CI z H ad op sg aO aS mO mS w' (sp_work ac).2.2 → Q' (.threw H.nx) (ov (H.newO 18 6) ad 21 w')) → Go z l mt_T_work (d + 22) 0 [.ref (ad 0)] [] H Q' := fun Q' k0 k1 k2 => by
    have g := ac_work (l := l) (d := d) (Q := Q') hc ha k0 k1 k2
    rw [← ec] at g
    exact g
  refine G _ (fun e w' hC hle => gj_nextI ?_) (fun e ea hle => gj_nextT ?_) (fun e w' hC hle => gj_nextT ?_)
  · refine la_work_6 (d := d + 14) u1 u4 (by show vp_in 0 (H.len ou); rw [h.2.2.2]; exact vp_in_nI (n := 0) (by decide) (by decide)) ?_
    obtain ⟨j1, j2, j3⟩ := h.ret hw hC had (v := (sp_work ac).2.1.toInt64)
    have g := k _ ad j1 rfl j2 (fun _ v9 h9 => by cases h9; exact j3)
    rw [e] at g
    exact g
  · refine go_catch (t := 17) [] ⟨0, 8, 11, 42⟩ [⟨0, 8, 14, 44⟩] wa_split_work (fun y hy => absurd hy List.not_mem_nil) rfl (by decide) mw_797 ml_809 (by decide) (hp_up_same _ _ _) (Nat.le_of_lt (Nat.lt_of_le_of_lt u4 u5)) (go_hol (n := 3) rfl (la_work_11 (d := d + 14) ?_))
    obtain ⟨j1, j2⟩ := h.thr hw hc had (t := 17)
    rw [ea] at k
    have g := k _ ad j1 rfl j2 (fun h9 => absurd (e.symm.trans h9) (by decide))
    rw [e] at g
    exact g
  · refine go_catch (t := 18) [⟨0, 8, 11, 42⟩] ⟨0, 8, 14, 44⟩ [] wa_split2_work (fun y hy => Or.inr (by obtain rfl := List.mem_singleton.mp hy; exact ⟨by decide, _, mw_797, hz⟩)) rfl (by decide) mw_798 ml_865 (by decide) (hp_up_same _ _ _) (Nat.le_of_lt (Nat.lt_of_le_of_lt u4 u5)) (go_hol (n := 3) rfl (la_work_14 (d := d + 14) ?_))
    obtain ⟨j1, j2⟩ := h.thr hw hC had (t := 18)
    have g := k _ ad j1 rfl j2 (fun h9 => absurd (e.symm.trans h9) (by decide))
    rw [e] at g
    exact g
theorem wa_split_keep : tableOf mt_A_keep.hh = [] ++ (⟨0, 9, 12, 19⟩ : ExceptionTableEntry) :: [] := rfl
theorem kw_keep {x1 : Int32} (h : JI z H ad am op sg aO aS mO mS ac ar bc ou c s) (ha : ac.ok) (k : WQ z am op sg aO aS mO mS (sp_keep x1 ac).2.2 ar bc ou c s H (ad 0) (sp_keep x1 ac).1 (some (sp_keep x1 ac).2.1.toInt64) Q) : Go z l mt_A_keep (d + 11) 0 [.ref (ad 0), .int x1, .ref ou, .retAddr 0] [] H Q := by
  refine go_wf fun hw => ?_
  obtain ⟨wc, ec, hc⟩ := h.1
  obtain ⟨wr, -, hm⟩ := h.2.1
  obtain ⟨u1, u2, u3, u4, u5, -⟩ := hm.oux
  have had := h.2.2.1
  refine la_keep (d := d + 2) (hc.1.1.2 0 (by decide)).1 ?_
  have G : ∀ Q' : Outcome → Hp → Prop, ((sp_keep x1 ac).1 = 0 → ∀ w', CI z H ad op sg aO aS mO mS w' (sp_keep x1 ac).2.2 → Q' (.returned (some (.int (sp_keep x1 ac).2.1))) (ov H ad 21 w')) → ((sp_keep x1 ac).1 = 1 → (sp_keep x1 ac).2.2 = ac → Q' (.threw H.nx) (ov (H.newO 15 6) ad 21 wc)) → Go z l mt_T_keep (d + 10) 0 [.ref (ad 0), .int x1] [] H Q' := fun Q' k0 k1 => by
    have g := ac_keep (l := l) (d := d) (Q := Q') hc  k0 k1
    rw [← ec] at g
    exact g
  refine G _ (fun e w' hC hle => gj_nextI ?_) (fun e ea hle => gj_nextT ?_)
  · refine la_keep_7 (d := d + 2) u1 u4 (by show vp_in 0 (H.len ou); rw [h.2.2.2]; exact vp_in_nI (n := 0) (by decide) (by decide)) ?_
    obtain ⟨j1, j2, j3⟩ := h.ret hw hC had (v := (sp_keep x1 ac).2.1.toInt64)
    have g := k _ ad j1 rfl j2 (fun _ v9 h9 => by cases h9; exact j3)
    rw [e] at g
    exact g
  · refine go_catch (t := 15) [] ⟨0, 9, 12, 19⟩ [] wa_split_keep (fun y hy => absurd hy List.not_mem_nil) rfl (by decide) mw_313 ml_323 (by decide) (hp_up_same _ _ _) (Nat.le_of_lt (Nat.lt_of_le_of_lt u4 u5)) (go_hol (n := 4) rfl (la_keep_12 (d := d + 2) ?_))
    obtain ⟨j1, j2⟩ := h.thr hw hc had (t := 15)
    rw [ea] at k
    have g := k _ ad j1 rfl j2 (fun h9 => absurd (e.symm.trans h9) (by decide))
    rw [e] at g
    exact g
theorem wa_split_value : tableOf mt_A_value.hh = [] ++ (⟨0, 8, 11, 19⟩ : ExceptionTableEntry) :: [] := rfl
theorem kw_value {x1 : Int32} (h : JI z H ad am op sg aO aS mO mS ac ar bc ou c s) (ha : ac.ok) (k : WQ z am op sg aO aS mO mS ac ar bc ou c s H (ad 0) (sp_value x1 ac).1 (some (sp_value x1 ac).2) Q) : Go z l mt_A_value (d + 11) 0 [.ref (ad 0), .int x1, .ref ou, .retAddr 0] [] H Q := by
  refine go_wf fun hw => ?_
  obtain ⟨wc, ec, hc⟩ := h.1
  obtain ⟨wr, -, hm⟩ := h.2.1
  obtain ⟨u1, u2, u3, u4, u5, -⟩ := hm.oux
  have had := h.2.2.1
  refine la_value (d := d + 2) (hc.1.1.2 0 (by decide)).1 ?_
  have G : ∀ Q' : Outcome → Hp → Prop, ((sp_value x1 ac).1 = 0 → Q' (.returned (some (.long (sp_value x1 ac).2))) (ov H ad 21 wc)) → ((sp_value x1 ac).1 = 1 → Q' (.threw H.nx) (ov (H.newO 15 6) ad 21 wc)) → Go z l mt_T_value (d + 10) 0 [.ref (ad 0), .int x1] [] H Q' := fun Q' k0 k1 => by
    have g := ac_value (l := l) (d := d) (Q := Q') hc  k0 k1
    rw [← ec] at g
    exact g
  refine G _ (fun e hle => gj_nextI ?_) (fun e hle => gj_nextT ?_)
  · refine la_value_7 (d := d + 2) u1 u4 (by show vp_in 0 (H.len ou); rw [h.2.2.2]; exact vp_in_nI (n := 0) (by decide) (by decide)) ?_
    obtain ⟨j1, j2, j3⟩ := h.ret hw hc had (v := (sp_value x1 ac).2)
    have g := k _ ad j1 rfl j2 (fun _ v9 h9 => by cases h9; exact j3)
    rw [e] at g
    exact g
  · refine go_catch (t := 15) [] ⟨0, 8, 11, 19⟩ [] wa_split_value (fun y hy => absurd hy List.not_mem_nil) rfl (by decide) mw_313 ml_323 (by decide) (hp_up_same _ _ _) (Nat.le_of_lt (Nat.lt_of_le_of_lt u4 u5)) (go_hol (n := 4) rfl (la_value_11 (d := d + 2) ?_))
    obtain ⟨j1, j2⟩ := h.thr hw hc had (t := 15)
    have g := k _ ad j1 rfl j2 (fun h9 => absurd (e.symm.trans h9) (by decide))
    rw [e] at g
    exact g
theorem wa_split_count : tableOf mt_A_count.hh = [] ++ (⟨0, 9, 12, 19⟩ : ExceptionTableEntry) :: [] := rfl
theorem kw_count {x1 : Int32} (h : JI z H ad am op sg aO aS mO mS ac ar bc ou c s) (ha : ac.ok) (k : WQ z am op sg aO aS mO mS ac ar bc ou c s H (ad 0) (sp_count x1 ac).1 (some (sp_count x1 ac).2.toInt64) Q) : Go z l mt_A_count (d + 10) 0 [.ref (ad 0), .int x1, .ref ou, .retAddr 0] [] H Q := by
  refine go_wf fun hw => ?_
  obtain ⟨wc, ec, hc⟩ := h.1
  obtain ⟨wr, -, hm⟩ := h.2.1
  obtain ⟨u1, u2, u3, u4, u5, -⟩ := hm.oux
  have had := h.2.2.1
  refine la_count (d := d + 1) (hc.1.1.2 0 (by decide)).1 ?_
  have G : ∀ Q' : Outcome → Hp → Prop, ((sp_count x1 ac).1 = 0 → Q' (.returned (some (.int (sp_count x1 ac).2))) (ov H ad 21 wc)) → ((sp_count x1 ac).1 = 1 → Q' (.threw H.nx) (ov (H.newO 15 6) ad 21 wc)) → Go z l mt_T_count (d + 9) 0 [.ref (ad 0), .int x1] [] H Q' := fun Q' k0 k1 => by
    have g := ac_count (l := l) (d := d) (Q := Q') hc  k0 k1
    rw [← ec] at g
    exact g
  refine G _ (fun e hle => gj_nextI ?_) (fun e hle => gj_nextT ?_)
  · refine la_count_7 (d := d + 1) u1 u4 (by show vp_in 0 (H.len ou); rw [h.2.2.2]; exact vp_in_nI (n := 0) (by decide) (by decide)) ?_
    obtain ⟨j1, j2, j3⟩ := h.ret hw hc had (v := (sp_count x1 ac).2.toInt64)
    have g := k _ ad j1 rfl j2 (fun _ v9 h9 => by cases h9; exact j3)
    rw [e] at g
    exact g
  · refine go_catch (t := 15) [] ⟨0, 9, 12, 19⟩ [] wa_split_count (fun y hy => absurd hy List.not_mem_nil) rfl (by decide) mw_313 ml_323 (by decide) (hp_up_same _ _ _) (Nat.le_of_lt (Nat.lt_of_le_of_lt u4 u5)) (go_hol (n := 4) rfl (la_count_12 (d := d + 1) ?_))
    obtain ⟨j1, j2⟩ := h.thr hw hc had (t := 15)
    have g := k _ ad j1 rfl j2 (fun h9 => absurd (e.symm.trans h9) (by decide))
    rw [e] at g
    exact g
end Wrap
