/-! ===== a call of the law: class, then reference. Printed by wip/tools/layk3.py ===== -/
theorem cd_feed {x1 : Int32} {x2 : Int32} {x3 : Int32} {x4 : Int32} {x5 : Int32} {a : Ab} : (sp_feed x1 x2 x3 x4 x5 a).1 ≤ 2 := by
  unfold sp_feed
  split <;> first | exact Nat.zero_le _ | exact Nat.le_succ 1
theorem cd_end {x1 : Int32} {a : Ab} : (sp_end x1 a).1 ≤ 2 := by
  unfold sp_end
  split <;> first | exact Nat.zero_le _ | exact Nat.le_succ 1
theorem cd_clear {x1 : Int32} {x2 : Int32} {a : Ab} : (sp_clear x1 x2 a).1 ≤ 2 := by
  unfold sp_clear
  split <;> first | exact Nat.zero_le _ | exact Nat.le_succ 1
theorem cd_set {x1 : Int32} {x2 : Int64} {a : Ab} : (sp_set x1 x2 a).1 ≤ 2 := by
  unfold sp_set
  split <;> first | exact Nat.zero_le _ | exact Nat.le_succ 1
theorem cd_text {x1 : Int32} {a : Ab} : (sp_txt x1 a).1 ≤ 2 := by
  unfold sp_txt
  split <;> first | exact Nat.zero_le _ | exact Nat.le_succ 1
theorem cd_read  {a : Ab} : (sp_rd a).1 ≤ 2 := by
  unfold sp_rd
  split <;> first | exact Nat.zero_le _ | exact Nat.le_succ 1
theorem cd_kind  {a : Ab} : (sp_kind a).1 ≤ 2 := by
  unfold sp_kind
  split
  · exact Nat.le_succ 1
  · split <;> first | exact Nat.zero_le _ | exact Nat.le_refl 2
theorem cd_work  {a : Ab} : (sp_work a).1 ≤ 2 := by
  unfold sp_work
  split
  · exact Nat.le_succ 1
  · split
    · exact Nat.le_refl 2
    · split <;> first | exact Nat.zero_le _ | exact Nat.le_refl 2
theorem cd_keep {x1 : Int32} {a : Ab} : (sp_keep x1 a).1 ≤ 2 := by
  unfold sp_keep
  split
  · split <;> first | exact Nat.zero_le _ | exact Nat.le_refl 2
  · exact Nat.le_succ 1
theorem cd_value {x1 : Int32} {a : Ab} : (sp_value x1 a).1 ≤ 2 := by
  unfold sp_value
  split <;> first | exact Nat.zero_le _ | exact Nat.le_succ 1
theorem cd_count {x1 : Int32} {a : Ab} : (sp_count x1 a).1 ≤ 2 := by
  unfold sp_count
  split <;> first | exact Nat.zero_le _ | exact Nat.le_succ 1
section LawCases
variable {z : State} {l : Launch} {d : Nat} {H : Hp} {ad am op sg : Nat → Nat} {aO aS mO mS : Nat} {a : Ab} {bc ou c s b : Nat} {i : Int32} {Q : Outcome → Hp → Prop}
theorem nI_0_of {n : Nat} (hn : n ≤ 2) (h : nI n = 0) : n = 0 := by
  have : n = 0 ∨ n = 1 ∨ n = 2 := by omega
  rcases this with rfl | rfl | rfl
  · rfl
  · exact absurd h (by decide)
  · exact absurd h (by decide)
theorem lg_cmp_self (x : Int64) : lg_cmp x x = 0 := by
  unfold lg_cmp
  rw [if_neg (Int64.lt_irrefl), if_pos rfl]
/-- one call more, both alike -/
def LK (z : State) (l : Launch) (d : Nat) (ad am op sg : Nat → Nat) (aO aS mO mS bc ou c s b : Nat) (i : Int32) (H : Hp) (Q : Outcome → Hp → Prop) : Prop := ∀ H' ad' a', JI z H' ad' am op sg aO aS mO mS a' a' bc ou (c + 401) (s + 7206) → a'.ok → ad' 0 = ad 0 → (∀ x, x < z.heap.size → SameC H H' x) → Go z l mt_A_law (d + 900) 723 [.ref b, .ref (ad 0), .ref (am 0), .ref ou, .int i, .retAddr 0, .retAddr 0, .retAddr 0] [] H' Q
theorem go_723 {v5 v6 : Value} (k : Go z l mt_A_law (d + 900) 723 [.ref b, .ref (ad 0), .ref (am 0), .ref ou, .int i, .retAddr 0, .retAddr 0, .retAddr 0] [] H Q) : Go z l mt_A_law (d + 900) 723 [.ref b, .ref (ad 0), .ref (am 0), .ref ou, .int i, v5, v6, .retAddr 0] [] H Q := go_drop 5 (go_drop 6 k)
theorem kl_feed (h : JI z H ad am op sg aO aS mO mS a a bc ou c s) (ha : a.ok) (hb : H.tag b = 22 ∧ b < z.heap.size) (i1 : vp_in (i + 1) (H.len b)) (i2 : vp_in (i + 2) (H.len b)) (i3 : vp_in (i + 3) (H.len b)) (i4 : vp_in (i + 4) (H.len b)) (i5 : vp_in (i + 5) (H.len b)) (k : LK z l d ad am op sg aO aS mO mS bc ou c s b i H Q) : Go z l mt_A_law (d + 900) 100 [.ref b, .ref (ad 0), .ref (am 0), .ref ou, .int i, .retAddr 0, .retAddr 0, .retAddr 0] [] H Q := by
  refine ll_100 (d := d + 891) hb.1 i1 i2 i3 i4 i5 (kw_feed (d := d + 888) h ha (fun H1 ad1 j1 e1 f1 v1 _ => gj_nextI ?_))
  obtain ⟨wr, er, hm⟩ := j1.2.1
  obtain ⟨u1, u2, u3, u4, u5, u6, u7⟩ := hm.oux
  refine ll_135 (d := d + 891) ((f1 b hb.2).1.trans hb.1) (u7.2 0 (by decide)).1 (by rw [(f1 b hb.2).2.1]; exact i1) (by rw [(f1 b hb.2).2.1]; exact i2) (by rw [(f1 b hb.2).2.1]; exact i3) (by rw [(f1 b hb.2).2.1]; exact i4) (by rw [(f1 b hb.2).2.1]; exact i5) ?_
  rw [(f1 b hb.2).2.2.2.1]
  have G : ∀ Q' : Outcome → Hp → Prop, MQr z am bc ou H1 (sp_feed (H.eI b (i + 1).toNatClampNeg) (H.eI b (i + 2).toNatClampNeg) (H.eI b (i + 3).toNatClampNeg) (H.eI b (i + 4).toNatClampNeg) (H.eI b (i + 5).toNatClampNeg) a).2.2 (c + 1 + 400) (s + 6 + 7200) (sp_feed (H.eI b (i + 1).toNatClampNeg) (H.eI b (i + 2).toNatClampNeg) (H.eI b (i + 3).toNatClampNeg) (H.eI b (i + 4).toNatClampNeg) (H.eI b (i + 5).toNatClampNeg) a).1 Q' (some (.int (sp_feed (H.eI b (i + 1).toNatClampNeg) (H.eI b (i + 2).toNatClampNeg) (H.eI b (i + 3).toNatClampNeg) (H.eI b (i + 4).toNatClampNeg) (H.eI b (i + 5).toNatClampNeg) a).2.1)) → Go z l mt_M_feed (d + 899) 0 [.ref (am 0), .int (H.eI b (i + 1).toNatClampNeg), .int (H.eI b (i + 2).toNatClampNeg), .int (H.eI b (i + 3).toNatClampNeg), .int (H.eI b (i + 4).toNatClampNeg), .int (H.eI b (i + 5).toNatClampNeg)] [] H1 Q' := fun Q' kk => by
    have g := ma_feed (l := l) (d := d + 889) (Q := Q') hm ha.1 kk
    rw [← er] at g
    exact g
  refine G _ (fun σ' w' hm' f2 _ hcode _ => gj_nextI ?_)
  obtain ⟨j2, f3⟩ := j1.ref hm' f2
  obtain ⟨t1, t2, t3, t4, t5, t6, t7⟩ := hm'.oux
  have e62 : (ov σ' am 7 w').I 62 (am 0) = nI (sp_feed (H.eI b (i + 1).toNatClampNeg) (H.eI b (i + 2).toNatClampNeg) (H.eI b (i + 3).toNatClampNeg) (H.eI b (i + 4).toNatClampNeg) (H.eI b (i + 5).toNatClampNeg) a).1 := (ov_I t7.1 (by decide)).trans hcode
  have fin := k _ ad1 (sp_feed (H.eI b (i + 1).toNatClampNeg) (H.eI b (i + 2).toNatClampNeg) (H.eI b (i + 3).toNatClampNeg) (H.eI b (i + 4).toNatClampNeg) (H.eI b (i + 5).toNatClampNeg) a).2.2 (j2.wide (by omega) (by omega)) (ok_feed ha) e1 (fun x hx => (f1 x hx).trans (f3 x (Or.inl (by omega))))
  refine ll_171 (d := d + 891) (t7.2 0 (by decide)).1 t1 (fun _ _ => go_723 fin) (fun _ _ => by rw [j2.2.2.2]; exact vp_in_nI (n := 0) (by decide) (by decide)) (fun _ _ _ => go_723 fin) (fun _ q0 q1 => absurd ?_ q1) (fun q => absurd e62 q)
  have ev : (ov σ' am 7 w').eJ ou (0 : Int32).toNatClampNeg = (sp_feed (H.eI b (i + 1).toNatClampNeg) (H.eI b (i + 2).toNatClampNeg) (H.eI b (i + 3).toNatClampNeg) (H.eI b (i + 4).toNatClampNeg) (H.eI b (i + 5).toNatClampNeg) a).2.1.toInt64 := (congrFun (f3 ou (Or.inr rfl)).2.2.2.2.1 0).trans (v1 (nI_0_of cd_feed q0) _ rfl)
  rw [ev]
  exact lg_cmp_self _
theorem kl_end (h : JI z H ad am op sg aO aS mO mS a a bc ou c s) (ha : a.ok) (hb : H.tag b = 22 ∧ b < z.heap.size) (i1 : vp_in (i + 1) (H.len b)) (k : LK z l d ad am op sg aO aS mO mS bc ou c s b i H Q) : Go z l mt_A_law (d + 900) 204 [.ref b, .ref (ad 0), .ref (am 0), .ref ou, .int i, .retAddr 0, .retAddr 0, .retAddr 0] [] H Q := by
  refine ll_204 (d := d + 891) hb.1 i1 (kw_end (d := d + 889) h ha (fun H1 ad1 j1 e1 f1 v1 _ => gj_nextI ?_))
  obtain ⟨wr, er, hm⟩ := j1.2.1
  obtain ⟨u1, u2, u3, u4, u5, u6, u7⟩ := hm.oux
  refine ll_215 (d := d + 891) ((f1 b hb.2).1.trans hb.1) (u7.2 0 (by decide)).1 (by rw [(f1 b hb.2).2.1]; exact i1) ?_
  rw [(f1 b hb.2).2.2.2.1]
  have G : ∀ Q' : Outcome → Hp → Prop, MQr z am bc ou H1 (sp_end (H.eI b (i + 1).toNatClampNeg) a).2.2 (c + 1) (s + 6) (sp_end (H.eI b (i + 1).toNatClampNeg) a).1 Q' (some (.int (sp_end (H.eI b (i + 1).toNatClampNeg) a).2.1)) → Go z l mt_M_end (d + 899) 0 [.ref (am 0), .int (H.eI b (i + 1).toNatClampNeg)] [] H1 Q' := fun Q' kk => by
    have g := ma_end (l := l) (d := d + 890) (Q := Q') hm ha.1 kk
    rw [← er] at g
    exact g
  refine G _ (fun σ' w' hm' f2 _ hcode _ => gj_nextI ?_)
  obtain ⟨j2, f3⟩ := j1.ref hm' f2
  obtain ⟨t1, t2, t3, t4, t5, t6, t7⟩ := hm'.oux
  have e62 : (ov σ' am 7 w').I 62 (am 0) = nI (sp_end (H.eI b (i + 1).toNatClampNeg) a).1 := (ov_I t7.1 (by decide)).trans hcode
  have fin := k _ ad1 (sp_end (H.eI b (i + 1).toNatClampNeg) a).2.2 (j2.wide (by omega) (by omega)) (ok_end ha) e1 (fun x hx => (f1 x hx).trans (f3 x (Or.inl (by omega))))
  refine ll_227 (d := d + 891) (t7.2 0 (by decide)).1 t1 (fun _ _ => go_723 fin) (fun _ _ => by rw [j2.2.2.2]; exact vp_in_nI (n := 0) (by decide) (by decide)) (fun _ _ _ => go_723 fin) (fun _ q0 q1 => absurd ?_ q1) (fun q => absurd e62 q)
  have ev : (ov σ' am 7 w').eJ ou (0 : Int32).toNatClampNeg = (sp_end (H.eI b (i + 1).toNatClampNeg) a).2.1.toInt64 := (congrFun (f3 ou (Or.inr rfl)).2.2.2.2.1 0).trans (v1 (nI_0_of cd_end q0) _ rfl)
  rw [ev]
  exact lg_cmp_self _
theorem kl_clear (h : JI z H ad am op sg aO aS mO mS a a bc ou c s) (ha : a.ok) (hb : H.tag b = 22 ∧ b < z.heap.size) (i1 : vp_in (i + 1) (H.len b)) (i2 : vp_in (i + 2) (H.len b)) (k : LK z l d ad am op sg aO aS mO mS bc ou c s b i H Q) : Go z l mt_A_law (d + 900) 260 [.ref b, .ref (ad 0), .ref (am 0), .ref ou, .int i, .retAddr 0, .retAddr 0, .retAddr 0] [] H Q := by
  refine ll_260 (d := d + 891) hb.1 i1 i2 (kw_clear (d := d + 889) h ha (fun H1 ad1 j1 e1 f1 v1 _ => gj_nextI ?_))
  obtain ⟨wr, er, hm⟩ := j1.2.1
  obtain ⟨u1, u2, u3, u4, u5, u6, u7⟩ := hm.oux
  refine ll_276 (d := d + 891) ((f1 b hb.2).1.trans hb.1) (u7.2 0 (by decide)).1 (by rw [(f1 b hb.2).2.1]; exact i1) (by rw [(f1 b hb.2).2.1]; exact i2) ?_
  rw [(f1 b hb.2).2.2.2.1]
  have G : ∀ Q' : Outcome → Hp → Prop, MQr z am bc ou H1 (sp_clear (H.eI b (i + 1).toNatClampNeg) (H.eI b (i + 2).toNatClampNeg) a).2 (c + 1) (s + 6) (sp_clear (H.eI b (i + 1).toNatClampNeg) (H.eI b (i + 2).toNatClampNeg) a).1 Q' none → Go z l mt_M_clear (d + 899) 0 [.ref (am 0), .int (H.eI b (i + 1).toNatClampNeg), .int (H.eI b (i + 2).toNatClampNeg)] [] H1 Q' := fun Q' kk => by
    have g := ma_clear (l := l) (d := d + 890) (Q := Q') hm  kk
    rw [← er] at g
    exact g
  refine G _ (fun σ' w' hm' f2 _ hcode _ => gj_nextV ?_)
  obtain ⟨j2, f3⟩ := j1.ref hm' f2
  obtain ⟨t1, t2, t3, t4, t5, t6, t7⟩ := hm'.oux
  have e62 : (ov σ' am 7 w').I 62 (am 0) = nI (sp_clear (H.eI b (i + 1).toNatClampNeg) (H.eI b (i + 2).toNatClampNeg) a).1 := (ov_I t7.1 (by decide)).trans hcode
  have fin := k _ ad1 (sp_clear (H.eI b (i + 1).toNatClampNeg) (H.eI b (i + 2).toNatClampNeg) a).2 (j2.wide (by omega) (by omega)) (ok_clear ha) e1 (fun x hx => (f1 x hx).trans (f3 x (Or.inl (by omega))))
  exact ll_294 (d := d + 891) (t7.2 0 (by decide)).1 (fun _ => go_723 fin) (fun q => absurd e62 q)
theorem kl_set (h : JI z H ad am op sg aO aS mO mS a a bc ou c s) (ha : a.ok) (hb : H.tag b = 22 ∧ b < z.heap.size) (i1 : vp_in (i + 1) (H.len b)) (i2 : vp_in (i + 2) (H.len b)) (i3 : vp_in (i + 3) (H.len b)) (k : LK z l d ad am op sg aO aS mO mS bc ou c s b i H Q) : Go z l mt_A_law (d + 900) 308 [.ref b, .ref (ad 0), .ref (am 0), .ref ou, .int i, .retAddr 0, .retAddr 0, .retAddr 0] [] H Q := by
  refine ll_308 (d := d + 891) hb.1 i1 i2 i3 (kw_set (d := d + 889) h ha (fun H1 ad1 j1 e1 f1 v1 _ => gj_nextI ?_))
  obtain ⟨wr, er, hm⟩ := j1.2.1
  obtain ⟨u1, u2, u3, u4, u5, u6, u7⟩ := hm.oux
  refine ll_340 (d := d + 891) ((f1 b hb.2).1.trans hb.1) (u7.2 0 (by decide)).1 (by rw [(f1 b hb.2).2.1]; exact i1) (by rw [(f1 b hb.2).2.1]; exact i2) (by rw [(f1 b hb.2).2.1]; exact i3) ?_
  rw [(f1 b hb.2).2.2.2.1]
  have G : ∀ Q' : Outcome → Hp → Prop, MQr z am bc ou H1 (sp_set (H.eI b (i + 1).toNatClampNeg) ((((H.eI b (i + 2).toNatClampNeg).toInt64) <<< ((32 : Int32).toInt64 &&& 63)) ||| (((H.eI b (i + 3).toNatClampNeg).toInt64) &&& 4294967295)) a).2 (c + 1) (s + 6) (sp_set (H.eI b (i + 1).toNatClampNeg) ((((H.eI b (i + 2).toNatClampNeg).toInt64) <<< ((32 : Int32).toInt64 &&& 63)) ||| (((H.eI b (i + 3).toNatClampNeg).toInt64) &&& 4294967295)) a).1 Q' none → Go z l mt_M_set (d + 899) 0 [.ref (am 0), .int (H.eI b (i + 1).toNatClampNeg), .long ((((H.eI b (i + 2).toNatClampNeg).toInt64) <<< ((32 : Int32).toInt64 &&& 63)) ||| (((H.eI b (i + 3).toNatClampNeg).toInt64) &&& 4294967295)), .retAddr 0] [] H1 Q' := fun Q' kk => by
    have g := ma_set (l := l) (d := d + 890) (Q := Q') hm (fun r hr => (ha.2.1 r hr).1) kk
    rw [← er] at g
    exact g
  refine G _ (fun σ' w' hm' f2 _ hcode _ => gj_nextV ?_)
  obtain ⟨j2, f3⟩ := j1.ref hm' f2
  obtain ⟨t1, t2, t3, t4, t5, t6, t7⟩ := hm'.oux
  have e62 : (ov σ' am 7 w').I 62 (am 0) = nI (sp_set (H.eI b (i + 1).toNatClampNeg) ((((H.eI b (i + 2).toNatClampNeg).toInt64) <<< ((32 : Int32).toInt64 &&& 63)) ||| (((H.eI b (i + 3).toNatClampNeg).toInt64) &&& 4294967295)) a).1 := (ov_I t7.1 (by decide)).trans hcode
  have fin := k _ ad1 (sp_set (H.eI b (i + 1).toNatClampNeg) ((((H.eI b (i + 2).toNatClampNeg).toInt64) <<< ((32 : Int32).toInt64 &&& 63)) ||| (((H.eI b (i + 3).toNatClampNeg).toInt64) &&& 4294967295)) a).2 (j2.wide (by omega) (by omega)) (ok_set ha) e1 (fun x hx => (f1 x hx).trans (f3 x (Or.inl (by omega))))
  exact ll_374 (d := d + 891) (t7.2 0 (by decide)).1 (fun _ => go_723 fin) (fun q => absurd e62 q)
theorem kl_text (h : JI z H ad am op sg aO aS mO mS a a bc ou c s) (ha : a.ok) (hb : H.tag b = 22 ∧ b < z.heap.size) (i1 : vp_in (i + 1) (H.len b)) (k : LK z l d ad am op sg aO aS mO mS bc ou c s b i H Q) : Go z l mt_A_law (d + 900) 388 [.ref b, .ref (ad 0), .ref (am 0), .ref ou, .int i, .retAddr 0, .retAddr 0, .retAddr 0] [] H Q := by
  refine ll_388 (d := d + 891) hb.1 i1 (kw_text (d := d + 888) h ha (fun H1 ad1 j1 e1 f1 v1 _ => gj_nextI ?_))
  obtain ⟨wr, er, hm⟩ := j1.2.1
  obtain ⟨u1, u2, u3, u4, u5, u6, u7⟩ := hm.oux
  refine ll_398 (d := d + 891) ((f1 b hb.2).1.trans hb.1) (u7.2 0 (by decide)).1 (by rw [(f1 b hb.2).2.1]; exact i1) ?_
  rw [(f1 b hb.2).2.2.2.1]
  have G : ∀ Q' : Outcome → Hp → Prop, MQr z am bc ou H1 (sp_txt (H.eI b (i + 1).toNatClampNeg) a).2 (c + 1) (s + 6) (sp_txt (H.eI b (i + 1).toNatClampNeg) a).1 Q' none → Go z l mt_M_text (d + 899) 0 [.ref (am 0), .int (H.eI b (i + 1).toNatClampNeg), .retAddr 0, .retAddr 0, .retAddr 0] [] H1 Q' := fun Q' kk => by
    have g := ma_text (l := l) (d := d + 890) (Q := Q') hm ha kk
    rw [← er] at g
    exact g
  refine G _ (fun σ' w' hm' f2 _ hcode _ => gj_nextV ?_)
  obtain ⟨j2, f3⟩ := j1.ref hm' f2
  obtain ⟨t1, t2, t3, t4, t5, t6, t7⟩ := hm'.oux
  have e62 : (ov σ' am 7 w').I 62 (am 0) = nI (sp_txt (H.eI b (i + 1).toNatClampNeg) a).1 := (ov_I t7.1 (by decide)).trans hcode
  have fin := k _ ad1 (sp_txt (H.eI b (i + 1).toNatClampNeg) a).2 (j2.wide (by omega) (by omega)) (ok_txt ha) e1 (fun x hx => (f1 x hx).trans (f3 x (Or.inl (by omega))))
  exact ll_410 (d := d + 891) (t7.2 0 (by decide)).1 (fun _ => go_723 fin) (fun q => absurd e62 q)
theorem kl_read (h : JI z H ad am op sg aO aS mO mS a a bc ou c s) (ha : a.ok) (hOw : 0 < a.n → OpW z H op) (hb : H.tag b = 22 ∧ b < z.heap.size)  (k : LK z l d ad am op sg aO aS mO mS bc ou c s b i H Q) : Go z l mt_A_law (d + 900) 424 [.ref b, .ref (ad 0), .ref (am 0), .ref ou, .int i, .retAddr 0, .retAddr 0, .retAddr 0] [] H Q := by
  refine ll_424 (d := d + 891) (kw_read (d := d + 497) h ha hOw (fun H1 ad1 j1 e1 f1 v1 _ => gj_nextI ?_))
  obtain ⟨wr, er, hm⟩ := j1.2.1
  obtain ⟨u1, u2, u3, u4, u5, u6, u7⟩ := hm.oux
  refine ll_429 (d := d + 891) (u7.2 0 (by decide)).1 ?_
  have G : ∀ Q' : Outcome → Hp → Prop, MQr z am bc ou H1 (sp_rd a).2.2 (c + 1) (s + 6) (sp_rd a).1 Q' (some (.int (sp_rd a).2.1)) → Go z l mt_M_read (d + 899) 0 [.ref (am 0), .retAddr 0, .retAddr 0] [] H1 Q' := fun Q' kk => by
    have g := ma_read (l := l) (d := d + 568) (Q := Q') hm ha kk
    rw [← er] at g
    exact g
  refine G _ (fun σ' w' hm' f2 _ hcode _ => gj_nextI ?_)
  obtain ⟨j2, f3⟩ := j1.ref hm' f2
  obtain ⟨t1, t2, t3, t4, t5, t6, t7⟩ := hm'.oux
  have e62 : (ov σ' am 7 w').I 62 (am 0) = nI (sp_rd a).1 := (ov_I t7.1 (by decide)).trans hcode
  have fin := k _ ad1 (sp_rd a).2.2 (j2.wide (by omega) (by omega)) (ok_rd ha) e1 (fun x hx => (f1 x hx).trans (f3 x (Or.inl (by omega))))
  refine ll_435 (d := d + 891) (t7.2 0 (by decide)).1 t1 (fun _ _ => go_723 fin) (fun _ _ => by rw [j2.2.2.2]; exact vp_in_nI (n := 0) (by decide) (by decide)) (fun _ _ _ => go_723 fin) (fun _ q0 q1 => absurd ?_ q1) (fun q => absurd e62 q)
  have ev : (ov σ' am 7 w').eJ ou (0 : Int32).toNatClampNeg = (sp_rd a).2.1.toInt64 := (congrFun (f3 ou (Or.inr rfl)).2.2.2.2.1 0).trans (v1 (nI_0_of cd_read q0) _ rfl)
  rw [ev]
  exact lg_cmp_self _
theorem kl_kind (hz : va_Nc "java/lang/ArithmeticException" "java/lang/IllegalStateException" z) (h : JI z H ad am op sg aO aS mO mS a a bc ou c s) (ha : a.ok) (hb : H.tag b = 22 ∧ b < z.heap.size)  (k : LK z l d ad am op sg aO aS mO mS bc ou c s b i H Q) : Go z l mt_A_law (d + 900) 468 [.ref b, .ref (ad 0), .ref (am 0), .ref ou, .int i, .retAddr 0, .retAddr 0, .retAddr 0] [] H Q := by
  refine ll_468 (d := d + 891) (kw_kind (d := d + 876) hz h ha (fun H1 ad1 j1 e1 f1 v1 _ => gj_nextI ?_))
  obtain ⟨wr, er, hm⟩ := j1.2.1
  obtain ⟨u1, u2, u3, u4, u5, u6, u7⟩ := hm.oux
  refine ll_473 (d := d + 891) (u7.2 0 (by decide)).1 ?_
  have G : ∀ Q' : Outcome → Hp → Prop, MQr z am bc ou H1 (sp_kind a).2.2 (c + 1) (s + 6) (sp_kind a).1 Q' (some (.int (sp_kind a).2.1)) → Go z l mt_M_kind (d + 899) 0 [.ref (am 0), .retAddr 0] [] H1 Q' := fun Q' kk => by
    have g := ma_kind (l := l) (d := d + 458) (Q := Q') hm ha kk
    rw [← er] at g
    exact g
  refine G _ (fun σ' w' hm' f2 _ hcode _ => gj_nextI ?_)
  obtain ⟨j2, f3⟩ := j1.ref hm' f2
  obtain ⟨t1, t2, t3, t4, t5, t6, t7⟩ := hm'.oux
  have e62 : (ov σ' am 7 w').I 62 (am 0) = nI (sp_kind a).1 := (ov_I t7.1 (by decide)).trans hcode
  have fin := k _ ad1 (sp_kind a).2.2 (j2.wide (by omega) (by omega)) (ok_kind ha) e1 (fun x hx => (f1 x hx).trans (f3 x (Or.inl (by omega))))
  refine ll_479 (d := d + 891) (t7.2 0 (by decide)).1 t1 (fun _ _ => go_723 fin) (fun _ _ => by rw [j2.2.2.2]; exact vp_in_nI (n := 0) (by decide) (by decide)) (fun _ _ _ => go_723 fin) (fun _ q0 q1 => absurd ?_ q1) (fun q => absurd e62 q)
  have ev : (ov σ' am 7 w').eJ ou (0 : Int32).toNatClampNeg = (sp_kind a).2.1.toInt64 := (congrFun (f3 ou (Or.inr rfl)).2.2.2.2.1 0).trans (v1 (nI_0_of cd_kind q0) _ rfl)
  rw [ev]
  exact lg_cmp_self _
theorem kl_work (hz : va_Nc "java/lang/ArithmeticException" "java/lang/IllegalStateException" z) (h : JI z H ad am op sg aO aS mO mS a a bc ou c s) (ha : a.ok) (hb : H.tag b = 22 ∧ b < z.heap.size)  (k : LK z l d ad am op sg aO aS mO mS bc ou c s b i H Q) : Go z l mt_A_law (d + 900) 512 [.ref b, .ref (ad 0), .ref (am 0), .ref ou, .int i, .retAddr 0, .retAddr 0, .retAddr 0] [] H Q := by
  refine ll_512 (d := d + 891) (kw_work (d := d + 876) hz h ha (fun H1 ad1 j1 e1 f1 v1 _ => gj_nextI ?_))
  obtain ⟨wr, er, hm⟩ := j1.2.1
  obtain ⟨u1, u2, u3, u4, u5, u6, u7⟩ := hm.oux
  refine ll_517 (d := d + 891) (u7.2 0 (by decide)).1 ?_
  have G : ∀ Q' : Outcome → Hp → Prop, MQr z am bc ou H1 (sp_work a).2.2 (c + 1) (s + 6) (sp_work a).1 Q' (some (.int (sp_work a).2.1)) → Go z l mt_M_work (d + 899) 0 [.ref (am 0), .retAddr 0] [] H1 Q' := fun Q' kk => by
    have g := ma_work (l := l) (d := d + 38) (Q := Q') hm ha kk
    rw [← er] at g
    exact g
  refine G _ (fun σ' w' hm' f2 _ hcode _ => gj_nextI ?_)
  obtain ⟨j2, f3⟩ := j1.ref hm' f2
  obtain ⟨t1, t2, t3, t4, t5, t6, t7⟩ := hm'.oux
  have e62 : (ov σ' am 7 w').I 62 (am 0) = nI (sp_work a).1 := (ov_I t7.1 (by decide)).trans hcode
  have fin := k _ ad1 (sp_work a).2.2 (j2.wide (by omega) (by omega)) (ok_work ha h.es) e1 (fun x hx => (f1 x hx).trans (f3 x (Or.inl (by omega))))
  refine ll_523 (d := d + 891) (t7.2 0 (by decide)).1 t1 (fun _ _ => go_723 fin) (fun _ _ => by rw [j2.2.2.2]; exact vp_in_nI (n := 0) (by decide) (by decide)) (fun _ _ _ => go_723 fin) (fun _ q0 q1 => absurd ?_ q1) (fun q => absurd e62 q)
  have ev : (ov σ' am 7 w').eJ ou (0 : Int32).toNatClampNeg = (sp_work a).2.1.toInt64 := (congrFun (f3 ou (Or.inr rfl)).2.2.2.2.1 0).trans (v1 (nI_0_of cd_work q0) _ rfl)
  rw [ev]
  exact lg_cmp_self _
theorem kl_keep (h : JI z H ad am op sg aO aS mO mS a a bc ou c s) (ha : a.ok) (hb : H.tag b = 22 ∧ b < z.heap.size) (i1 : vp_in (i + 1) (H.len b)) (k : LK z l d ad am op sg aO aS mO mS bc ou c s b i H Q) : Go z l mt_A_law (d + 900) 556 [.ref b, .ref (ad 0), .ref (am 0), .ref ou, .int i, .retAddr 0, .retAddr 0, .retAddr 0] [] H Q := by
  refine ll_556 (d := d + 891) hb.1 i1 (kw_keep (d := d + 888) h ha (fun H1 ad1 j1 e1 f1 v1 _ => gj_nextI ?_))
  obtain ⟨wr, er, hm⟩ := j1.2.1
  obtain ⟨u1, u2, u3, u4, u5, u6, u7⟩ := hm.oux
  refine ll_567 (d := d + 891) ((f1 b hb.2).1.trans hb.1) (u7.2 0 (by decide)).1 (by rw [(f1 b hb.2).2.1]; exact i1) ?_
  rw [(f1 b hb.2).2.2.2.1]
  have G : ∀ Q' : Outcome → Hp → Prop, MQr z am bc ou H1 (sp_keep (H.eI b (i + 1).toNatClampNeg) a).2.2 (c + 1) (s + 6) (sp_keep (H.eI b (i + 1).toNatClampNeg) a).1 Q' (some (.int (sp_keep (H.eI b (i + 1).toNatClampNeg) a).2.1)) → Go z l mt_M_keep (d + 899) 0 [.ref (am 0), .int (H.eI b (i + 1).toNatClampNeg)] [] H1 Q' := fun Q' kk => by
    have g := ma_keep (l := l) (d := d + 889) (Q := Q') hm ha kk
    rw [← er] at g
    exact g
  refine G _ (fun σ' w' hm' f2 _ hcode _ => gj_nextI ?_)
  obtain ⟨j2, f3⟩ := j1.ref hm' f2
  obtain ⟨t1, t2, t3, t4, t5, t6, t7⟩ := hm'.oux
  have e62 : (ov σ' am 7 w').I 62 (am 0) = nI (sp_keep (H.eI b (i + 1).toNatClampNeg) a).1 := (ov_I t7.1 (by decide)).trans hcode
  have fin := k _ ad1 (sp_keep (H.eI b (i + 1).toNatClampNeg) a).2.2 (j2.wide (by omega) (by omega)) (ok_keep ha) e1 (fun x hx => (f1 x hx).trans (f3 x (Or.inl (by omega))))
  refine ll_579 (d := d + 891) (t7.2 0 (by decide)).1 t1 (fun _ _ => go_723 fin) (fun _ _ => by rw [j2.2.2.2]; exact vp_in_nI (n := 0) (by decide) (by decide)) (fun _ _ _ => go_723 fin) (fun _ q0 q1 => absurd ?_ q1) (fun q => absurd e62 q)
  have ev : (ov σ' am 7 w').eJ ou (0 : Int32).toNatClampNeg = (sp_keep (H.eI b (i + 1).toNatClampNeg) a).2.1.toInt64 := (congrFun (f3 ou (Or.inr rfl)).2.2.2.2.1 0).trans (v1 (nI_0_of cd_keep q0) _ rfl)
  rw [ev]
  exact lg_cmp_self _
theorem kl_value (h : JI z H ad am op sg aO aS mO mS a a bc ou c s) (ha : a.ok) (hb : H.tag b = 22 ∧ b < z.heap.size) (i1 : vp_in (i + 1) (H.len b)) (k : LK z l d ad am op sg aO aS mO mS bc ou c s b i H Q) : Go z l mt_A_law (d + 900) 612 [.ref b, .ref (ad 0), .ref (am 0), .ref ou, .int i, .retAddr 0, .retAddr 0, .retAddr 0] [] H Q := by
  refine ll_612 (d := d + 891) hb.1 i1 (kw_value (d := d + 888) h ha (fun H1 ad1 j1 e1 f1 v1 _ => gj_nextI ?_))
  obtain ⟨wr, er, hm⟩ := j1.2.1
  obtain ⟨u1, u2, u3, u4, u5, u6, u7⟩ := hm.oux
  refine ll_623 (d := d + 891) ((f1 b hb.2).1.trans hb.1) (u7.2 0 (by decide)).1 (by rw [(f1 b hb.2).2.1]; exact i1) ?_
  rw [(f1 b hb.2).2.2.2.1]
  have G : ∀ Q' : Outcome → Hp → Prop, MQr z am bc ou H1 a (c + 1) (s + 6) (sp_value (H.eI b (i + 1).toNatClampNeg) a).1 Q' (some (.long (sp_value (H.eI b (i + 1).toNatClampNeg) a).2)) → Go z l mt_M_value_0 (d + 899) 0 [.ref (am 0), .int (H.eI b (i + 1).toNatClampNeg), .retAddr 0, .retAddr 0, .retAddr 0] [] H1 Q' := fun Q' kk => by
    have g := ma_value (l := l) (d := d + 890) (Q := Q') hm ha kk
    rw [← er] at g
    exact g
  refine G _ (fun σ' w' hm' f2 _ hcode _ => gj_nextI ?_)
  obtain ⟨j2, f3⟩ := j1.ref hm' f2
  obtain ⟨t1, t2, t3, t4, t5, t6, t7⟩ := hm'.oux
  have e62 : (ov σ' am 7 w').I 62 (am 0) = nI (sp_value (H.eI b (i + 1).toNatClampNeg) a).1 := (ov_I t7.1 (by decide)).trans hcode
  have fin := k _ ad1 a (j2.wide (by omega) (by omega)) (ha) e1 (fun x hx => (f1 x hx).trans (f3 x (Or.inl (by omega))))
  refine ll_635 (d := d + 891) (t7.2 0 (by decide)).1 t1 (fun _ _ => go_723 fin) (fun _ _ => by rw [j2.2.2.2]; exact vp_in_nI (n := 0) (by decide) (by decide)) (fun _ _ _ => go_723 fin) (fun _ q0 q1 => absurd ?_ q1) (fun q => absurd e62 q)
  have ev : (ov σ' am 7 w').eJ ou (0 : Int32).toNatClampNeg = (sp_value (H.eI b (i + 1).toNatClampNeg) a).2 := (congrFun (f3 ou (Or.inr rfl)).2.2.2.2.1 0).trans (v1 (nI_0_of cd_value q0) _ rfl)
  rw [ev]
  exact lg_cmp_self _
theorem kl_count (h : JI z H ad am op sg aO aS mO mS a a bc ou c s) (ha : a.ok) (hb : H.tag b = 22 ∧ b < z.heap.size) (i1 : vp_in (i + 1) (H.len b)) (k : LK z l d ad am op sg aO aS mO mS bc ou c s b i H Q) : Go z l mt_A_law (d + 900) 667 [.ref b, .ref (ad 0), .ref (am 0), .ref ou, .int i, .retAddr 0, .retAddr 0, .retAddr 0] [] H Q := by
  refine ll_667 (d := d + 891) hb.1 i1 (kw_count (d := d + 889) h ha (fun H1 ad1 j1 e1 f1 v1 _ => gj_nextI ?_))
  obtain ⟨wr, er, hm⟩ := j1.2.1
  obtain ⟨u1, u2, u3, u4, u5, u6, u7⟩ := hm.oux
  refine ll_678 (d := d + 891) ((f1 b hb.2).1.trans hb.1) (u7.2 0 (by decide)).1 (by rw [(f1 b hb.2).2.1]; exact i1) ?_
  rw [(f1 b hb.2).2.2.2.1]
  have G : ∀ Q' : Outcome → Hp → Prop, MQr z am bc ou H1 a (c + 1) (s + 6) (sp_count (H.eI b (i + 1).toNatClampNeg) a).1 Q' (some (.int (sp_count (H.eI b (i + 1).toNatClampNeg) a).2)) → Go z l mt_M_count (d + 899) 0 [.ref (am 0), .int (H.eI b (i + 1).toNatClampNeg)] [] H1 Q' := fun Q' kk => by
    have g := ma_count (l := l) (d := d + 890) (Q := Q') hm  kk
    rw [← er] at g
    exact g
  refine G _ (fun σ' w' hm' f2 _ hcode _ => gj_nextI ?_)
  obtain ⟨j2, f3⟩ := j1.ref hm' f2
  obtain ⟨t1, t2, t3, t4, t5, t6, t7⟩ := hm'.oux
  have e62 : (ov σ' am 7 w').I 62 (am 0) = nI (sp_count (H.eI b (i + 1).toNatClampNeg) a).1 := (ov_I t7.1 (by decide)).trans hcode
  have fin := k _ ad1 a (j2.wide (by omega) (by omega)) (ha) e1 (fun x hx => (f1 x hx).trans (f3 x (Or.inl (by omega))))
  refine ll_690 (d := d + 891) (t7.2 0 (by decide)).1 t1 (fun _ _ => go_723 fin) (fun _ _ => by rw [j2.2.2.2]; exact vp_in_nI (n := 0) (by decide) (by decide)) (fun _ _ _ => go_723 fin) (fun _ q0 q1 => absurd ?_ q1) (fun q => absurd e62 q)
  have ev : (ov σ' am 7 w').eJ ou (0 : Int32).toNatClampNeg = (sp_count (H.eI b (i + 1).toNatClampNeg) a).2.toInt64 := (congrFun (f3 ou (Or.inr rfl)).2.2.2.2.1 0).trans (v1 (nI_0_of cd_count q0) _ rfl)
  rw [ev]
  exact lg_cmp_self _
end LawCases
