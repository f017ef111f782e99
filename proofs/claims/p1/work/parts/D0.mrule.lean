/-! ===== the reference's rules: what a method of its parser does ===== -/
/-- the node n, made in nlo .. nhi - 1 but for hl .. hh - 1, stands for m -/
def RepH (m : Ex) (lo nlo nhi hl hh : Nat) (σ0 : Hp) (am : Nat → Nat) (n h kv : Nat) : Prop := lo ≤ nlo ∧ nlo ≤ n ∧ n < nhi ∧ σ0.tag n = 9 ∧ (EX_S m ∧ EX_K m) ∧ RNK m lo nlo nhi hl hh σ0 am n h ∧ RNE m lo nlo nhi hl hh σ0 am n h kv ∧ ¬ (hl ≤ n ∧ n < hh)
abbrev RepN (m : Ex) (lo nlo nhi : Nat) (σ0 : Hp) (am : Nat → Nat) (n h kv : Nat) : Prop := RepH m lo nlo nhi 0 0 σ0 am n h kv
theorem RNK.wide {m : Ex} {lo nlo nhi hl hh u v cl ch h : Nat} {σ0 : Hp} {am : Nat → Nat} {n : Nat} (r : RNK m lo u v cl ch σ0 am n h) (hs : Sb nlo nhi hl hh u v cl ch) (h1 : nlo ≤ u) : RNK m lo nlo nhi hl hh σ0 am n h := fun z l d σ w kn Q K hz A k0 k1 => r z l d σ w kn Q K (by omega) (A.sub hs) (fun e q σ' C t => k0 e q σ' (C.wide hs) t) (fun e σ' C => k1 e σ' (C.wide hs))
theorem RNE.wide {m : Ex} {lo nlo nhi hl hh u v cl ch h kv : Nat} {σ0 : Hp} {am : Nat → Nat} {n : Nat} (r : RNE m lo u v cl ch σ0 am n h kv) (hs : Sb nlo nhi hl hh u v cl ch) : RNE m lo nlo nhi hl hh σ0 am n h kv := fun z l d σ w kn R q Q E A F g c b k0 k1 => r z l d σ w kn R q Q E (A.sub hs) (fun a ha => F a (Dp.sub hs ha)) g c b k0 k1
theorem RepH.mono {m : Ex} {lo nlo nhi hl hh h h' kv kv' : Nat} {σ0 : Hp} {am : Nat → Nat} {n : Nat} (r : RepH m lo nlo nhi hl hh σ0 am n h kv) (h1 : h ≤ h') (hk : kv ≤ kv') : RepH m lo nlo nhi hl hh σ0 am n h' kv' := by
  obtain ⟨a0, a1, a2, a3, a4, a5, a6, a7⟩ := r
  exact ⟨a0, a1, a2, a3, a4, a5.mono h1, a6.mono h1 hk, a7⟩
theorem RepH.mv {m : Ex} {lo nlo nhi hl hh h kv : Nat} {σ0 σ1 : Hp} {am : Nat → Nat} {n : Nat} (r : RepH m lo nlo nhi hl hh σ0 am n h kv) (a : Ag lo nlo nhi hl hh σ0 σ1) : RepH m lo nlo nhi hl hh σ1 am n h kv := by
  obtain ⟨a0, a1, a2, a3, a4, a5, a6, a7⟩ := r
  exact ⟨a0, a1, a2, ((a n (Or.inl ⟨a1, a2, a7⟩)).1).trans a3, a4, a5.mv a, a6.mv a, a7⟩
theorem RepH.wid {m : Ex} {lo nlo nhi hl hh u v cl ch h kv : Nat} {σ0 : Hp} {am : Nat → Nat} {n : Nat} (r : RepH m lo u v cl ch σ0 am n h kv) (h0 : lo ≤ nlo) (h1 : nlo ≤ u) (hs : Sb nlo nhi hl hh u v cl ch) : RepH m lo nlo nhi hl hh σ0 am n h kv := by
  obtain ⟨a0, a1, a2, a3, a4, a5, a6, a7⟩ := r
  have q := hs.2 n ⟨a1, a2, a7⟩
  exact ⟨h0, q.1, q.2.1, a3, a4, a5.wide hs h1, a6.wide hs, q.2.2⟩
theorem RepH.wide {m : Ex} {lo nlo nhi u v h kv : Nat} {σ0 : Hp} {am : Nat → Nat} {n : Nat} (r : RepH m lo u v 0 0 σ0 am n h kv) (h0 : lo ≤ nlo) (h1 : nlo ≤ u) (h2 : v ≤ nhi) : RepH m lo nlo nhi 0 0 σ0 am n h kv := r.wid h0 h1 ⟨h2, fun a q => ⟨by have := q.1; omega, by have := q.2.1; omega, fun q => by omega⟩⟩
/-- nodes outlive what comes later -/
theorem Fm.ag {am : Nat → Nat} {ex : Nat → Prop} {σ σ' : Hp} {lo nlo nhi hl hh : Nat} (f : Fm am ex σ σ') (h1 : nhi ≤ σ.nx) (h2 : ∀ i, i < 7 → am i < lo) (h3 : lo ≤ nlo) (hx : ∀ a, ex a → ¬ Dp lo nlo nhi hl hh σ a) : Ag lo nlo nhi hl hh σ σ' := fun a ha => by
  have la : lo ≤ a ∧ a < nhi := by
    rcases ha with q | q
    · exact ⟨by have := q.1; omega, q.2.1⟩
    · exact ⟨q.1, q.2.1⟩
  exact (f.2.2 a (by omega) (fun i hi e => by have := h2 i hi; omega) (fun q => hx a q ha)).sx
theorem RepH.fm {m : Ex} {lo nlo nhi hl hh h kv : Nat} {σ σ' : Hp} {am : Nat → Nat} {n : Nat} (r : RepH m lo nlo nhi hl hh σ am n h kv) (f : Fm am (fun _ => False) σ σ') (h1 : nhi ≤ σ.nx) (h2 : ∀ i, i < 7 → am i < lo) : RepH m lo nlo nhi hl hh σ' am n h kv := r.mv (f.ag h1 h2 r.1 (fun _ q => q.elim))
/-- what has come out of a rule: the text is broken, or a node stands for what it read -/
def MOH (z : State) (am : Nat → Nat) (T : Nat → Int32) (L sa lo : Nat) (σ : Hp) (w : Wd) (p ops k hb hl hh : Nat) (r : Pr) (o : Outcome) (H : Hp) : Prop := match r with
  | .error e => o = .threw (am 1) ∧ MB z am T L σ w p e H
  | .ok (m, p', o') => ∃ n σ' w', o = .returned (some (.ref n)) ∧ H = ov σ' am 7 w' ∧ MG z σ' am w' T L sa lo p' o' k ∧ ops ≤ o' ∧ p + 1 ≤ p' ∧ Fm am (fun _ => False) σ σ' ∧ WS w w' ∧ Bc T L σ σ' p p' ∧ RepH m lo σ.nx σ'.nx hl hh σ' am n (hb + (o' - ops)) (2 * (p' - p))
abbrev MO (z : State) (am : Nat → Nat) (T : Nat → Int32) (L sa lo : Nat) (σ : Hp) (w : Wd) (p ops k hb : Nat) (r : Pr) (o : Outcome) (H : Hp) : Prop := MOH z am T L sa lo σ w p ops k hb 0 0 r o H
def RM (z : State) (l : Launch) (am : Nat → Nat) (T : Nat → Int32) (L sa lo : Nat) (M : Mt) (A : List Value) (k D hb : Nat) (F : Nat → Nat → Pr) : Prop := ∀ (d : Nat) (σ : Hp) (w : Wd) (p ops : Nat) (Q : Outcome → Hp → Prop), MG z σ am w T L sa lo p ops k → (∀ o H, MO z am T L sa lo σ w p ops k hb (F p ops) o H → Q o H) → Go z l M (d + 10 * (30 - k) + 30 + D) 0 A [] (ov σ am 7 w) Q
theorem mo_err {z : State} {am : Nat → Nat} {T : Nat → Int32} {L sa lo : Nat} {σ : Hp} {w : Wd} {p ops k hb hl hh e : Nat} {r : Pr} {H : Hp} (hr : r = .error e) (h : MB z am T L σ w p e H) : MOH z am T L sa lo σ w p ops k hb hl hh r (.threw (am 1)) H := by
  subst hr
  exact ⟨rfl, h⟩
theorem mo_ok {z : State} {am : Nat → Nat} {T : Nat → Int32} {L sa lo : Nat} {σ σ' : Hp} {w w' : Wd} {p p' ops o' k hb hl hh n : Nat} {r : Pr} {m : Ex} (hr : r = .ok (m, p', o')) (h1 : MG z σ' am w' T L sa lo p' o' k) (h2 : ops ≤ o') (h3 : p + 1 ≤ p') (h4 : Fm am (fun _ => False) σ σ') (h5 : WS w w') (h6 : Bc T L σ σ' p p') (h7 : RepH m lo σ.nx σ'.nx hl hh σ' am n (hb + (o' - ops)) (2 * (p' - p))) : MOH z am T L sa lo σ w p ops k hb hl hh r (.returned (some (.ref n))) (ov σ' am 7 w') := by
  subst hr
  exact ⟨n, σ', w', rfl, rfl, h1, h2, h3, h4, h5, h6, h7⟩
section MPair
variable {z : State} {l : Launch} {d : Nat} {σ : Hp} {am : Nat → Nat} {w : Wd} {Q : Outcome → Hp → Prop} {T : Nat → Int32} {L sa lo p ops k : Nat}
theorem mo_pair {x1 x2 : Int32} {x y : Nat} (hc : CM z σ am) (hx : σ.tag x = 9) (hy : σ.tag y = 9) (kk : ∀ σ', CM z σ' am → Fm am (fun _ => False) σ σ' → ND σ' σ.nx (σ.nx + 1) x1 x2 [x, y] 2 → σ'.nx = σ.nx + 2 → σ'.sl = σ.sl + 9 → Q (.returned (some (.ref σ.nx))) (ov σ' am 7 w)) :
    Go z l mt_M_pair (d + 10) 0 [.int x1, .int x2, .ref x, .ref y, .retAddr 0] [] (ov σ am 7 w) Q := by
  refine go_wf fun hw => ?_
  have lt7 : ∀ i, i < 7 → am i < σ.nx := hc.lt hw
  have hxl : x < σ.nx := hw.lt (show (ov σ am 7 w).tag x ≠ 0 by show σ.tag x ≠ 0; rw [hx]; decide)
  have hyl : y < σ.nx := hw.lt (show (ov σ am 7 w).tag y ≠ 0 by show σ.tag y ≠ 0; rw [hy]; decide)
  have mm : ∀ a, σ.nx ≤ a → mx am a := fun a ha i hi e => by have := lt7 i hi; omega
  refine cm_M_pair (d := d + 1) hc (mo_node (d := d) hc (fun σ1 c1 f1 N1 n1 s1 z1 _ => gj_nextI ?_))
  have tx : σ1.tag x = 9 := (f1.2.2 x hxl (hc.out hx rfl) (fun q => q)).1.trans hx
  have ty : σ1.tag y = 9 := (f1.2.2 y hyl (hc.out hy rfl) (fun q => q)).1.trans hy
  refine cm_M_pair_5 (d := d + 1) c1 N1.1 (mo_add (d := d) c1 N1 (mm _ (Nat.le_succ _)) tx z1 (by omega) (Nat.zero_le _) (by decide) (fun i hi => absurd hi (Nat.not_lt_zero _)) (fun σ2 b2 cap2 c2 f2 N2 o2 b2' m2 lt2 n2 s2 e2 l2 _ => gj_nextV ?_))
  obtain ⟨e2n, e2s, e2b, e2c⟩ := e2 (by decide)
  subst e2b
  subst e2c
  have f2' : Fm am (fun _ => False) σ σ2 := f1.trans f2 (fun _ _ q => q) (fun a ha q => by omega)
  have tx2 : σ2.tag x = 9 := (f2'.2.2 x hxl (hc.out hx rfl) (fun q => q)).1.trans hx
  have ty2 : σ2.tag y = 9 := (f2'.2.2 y hyl (hc.out hy rfl) (fun q => q)).1.trans hy
  refine cm_M_pair_13 (d := d + 1) c2 N2.1 (mo_add (d := d) c2 N2 m2 ty2 z1 (by omega) (show 1 ≤ 40 by decide) l2 (fun i hi => ?_) (fun σ3 b3 cap3 c3 f3 N3 o3 b3' m3 lt3 n3 s3 e3 l3 _ => gj_nextV ?_))
  · have hi' : i < 1 := hi
    obtain rfl : i = 0 := by omega
    exact tx2
  obtain ⟨e3n, e3s, e3b, e3c⟩ := e3 (show 1 < 2 by decide)
  subst e3b
  subst e3c
  exact cm_M_pair_19 (d := d + 1) c3 (kk σ3 c3 (f2'.trans f3 (fun _ _ q => q) (fun a ha q => by omega)) N3 (by omega) (by omega))
/-- the world's counters -/
theorem MG.setk (h : MG z σ am w T L sa lo p ops k) {v : Nat} (hv : v ≤ 30) : MG z σ am (w.setI 0 50 (nI v)) T L sa lo p ops v := by
  obtain ⟨g1, g2, g3, g4, g5, g6, g7, g8, g9, g10⟩ := h
  exact ⟨g1.mv g1.1 (Fm.rfl' am (fun _ => False) σ) (fun q => q) (fun _ q => q.elim) (WS.setI w _ (by decide) (by decide)), g2, g3, g4, rfl, g6, hv, g8, g9, g10⟩
theorem MG.seto (h : MG z σ am w T L sa lo p ops k) {v : Nat} (hv : v ≤ 300) : MG z σ am (w.setI 0 51 (nI v)) T L sa lo p v k := by
  obtain ⟨g1, g2, g3, g4, g5, g6, g7, g8, g9, g10⟩ := h
  exact ⟨g1.mv g1.1 (Fm.rfl' am (fun _ => False) σ) (fun q => q) (fun _ q => q.elim) (WS.setI w _ (by decide) (by decide)), g2, g3, g4, g5, rfl, g7, hv, g9, g10⟩
/-- a later heap -/
theorem MG.fx {σ' : Hp} {ex : Nat → Prop} (h : MG z σ am w T L sa lo p ops k) (hc : CM z σ' am) (f : Fm am ex σ σ') (hx : ∀ a, ex a → (σ.tag a = 9 ∨ σ.tag a = 26) ∧ z.heap.size ≤ a) (hw : hp_wf (ov σ am 7 w)) : MG z σ' am w T L sa lo p ops k := by
  obtain ⟨g1, g2, g3, g4, g5, g6, g7, g8, g9, g10⟩ := h
  have fn := f.1
  have nx : ∀ a, (σ.tag a = 10 ∨ σ.tag a = 12 ∨ σ.tag a = 21) → ¬ ex a := fun a ha q => by
    have := (hx a q).1
    omega
  have tagne : ∀ a, σ.tag a ≠ 0 → a < σ.nx := fun a ha => hw.lt (show (ov σ am 7 w).tag a ≠ 0 from ha)
  have str : ∀ {a cs}, StrM σ am a cs → StrM σ' am a cs ∧ σ'.A 81 a = σ.A 81 a := fun {a cs} hS => by
    have ha : a < σ.nx := tagne a (by rw [hS.1.1]; decide)
    have sa := f.2.2 a ha (g1.1.out hS.1.1 rfl) (nx a (Or.inr (Or.inl hS.1.1)))
    refine ⟨hS.mv sa (fun b hb => ?_), (sa.2.2.1 81).2.2⟩
    obtain ⟨⟨-, -, b9, hb9, tb, -⟩, mb⟩ := hS
    obtain rfl : b9 = b := Option.some.inj (hb9.symm.trans hb)
    exact f.2.2 b9 (tagne b9 (by rw [tb]; decide)) (mb b9 hb9) (nx b9 (Or.inr (Or.inr tb)))
  have vm : ∀ {v x}, VM σ am v x → VM σ' am v x ∧ σ'.A 73 v = σ.A 73 v := fun {v x} hV => by
    have ha : v < σ.nx := tagne v (by rw [hV.1]; decide)
    have sa := f.2.2 v ha (g1.1.out hV.1 rfl) (nx v (Or.inl hV.1))
    refine ⟨hV.mv sa (fun t ht => ?_), (sa.2.2.1 73).2.2⟩
    obtain ⟨-, -, -, m, -, -, t9, ht9, tt, mt, -⟩ := hV
    obtain rfl : t9 = t := Option.some.inj (ht9.symm.trans ht)
    exact f.2.2 t9 (tagne t9 (by rw [tt]; decide)) mt (nx t9 (Or.inr (Or.inr tt)))
  have tokL : TokL σ' w lo := by
    obtain ⟨-, tk⟩ := id g2
    rcases tk with ⟨c1, c2, c3, a', c4, c5⟩ | ⟨c1, c2, c3, a', c4, c5⟩ | ⟨c1, c2, -⟩ | ⟨c1, c2, c3, v', c4, c5⟩ | ⟨c1, c0, c2, -⟩ | ⟨c1, c2, -⟩ | ⟨c1, c2⟩ | ⟨c1, c2⟩
    · refine ⟨fun q a ha => ⟨(g3.1 q a ha).1, fun b hb => ?_⟩, fun q => absurd (c2.symm.trans q) (by decide)⟩
      obtain rfl : a' = a := Option.some.inj (c4.symm.trans ha)
      exact (g3.1 q a' ha).2 b ((str c5).2.symm.trans hb)
    · refine ⟨fun q a ha => ⟨(g3.1 q a ha).1, fun b hb => ?_⟩, fun q => absurd (c2.symm.trans q) (by decide)⟩
      obtain rfl : a' = a := Option.some.inj (c4.symm.trans ha)
      exact (g3.1 q a' ha).2 b ((str c5).2.symm.trans hb)
    · exact TokL.of c2 (by decide)
    · refine ⟨fun q => absurd q (by rw [c2]; decide), fun q v hv => ⟨(g3.2 q v hv).1, fun t ht => ?_⟩⟩
      obtain rfl : v' = v := Option.some.inj (c4.symm.trans hv)
      exact (g3.2 q v' hv).2 t ((vm c5).2.symm.trans ht)
    · exact TokL.of c2 (by decide)
    · exact TokL.of c2 (by decide)
    · exact TokL.of c2 (by decide)
    · exact TokL.of c2 (by decide)
  have tokM : TokM σ' am w T L p := by
    obtain ⟨t45, tk⟩ := id g2
    refine ⟨t45, ?_⟩
    rcases tk with ⟨c1, c2, c3, a', c4, c5⟩ | ⟨c1, c2, c3, a', c4, c5⟩ | c | ⟨c1, c2, c3, v', c4, c5⟩ | c | c | c | c
    · exact Or.inl ⟨c1, c2, c3, a', c4, (str c5).1⟩
    · exact Or.inr (Or.inl ⟨c1, c2, c3, a', c4, (str c5).1⟩)
    · exact Or.inr (Or.inr (Or.inl c))
    · exact Or.inr (Or.inr (Or.inr (Or.inl ⟨c1, c2, c3, v', c4, (vm c5).1⟩)))
    · exact Or.inr (Or.inr (Or.inr (Or.inr (Or.inl c))))
    · exact Or.inr (Or.inr (Or.inr (Or.inr (Or.inr (Or.inl c)))))
    · exact Or.inr (Or.inr (Or.inr (Or.inr (Or.inr (Or.inr (Or.inl c))))))
    · exact Or.inr (Or.inr (Or.inr (Or.inr (Or.inr (Or.inr (Or.inr c))))))
  exact ⟨g1.mv hc f (nx sa (Or.inr (Or.inr g1.2.2.2.1.1))) (fun a q => (hx a q).2) (WS.rfl' w), tokM, tokL, g4, g5, g6, g7, g8, by omega, g10⟩
theorem MG.fr {σ' : Hp} (h : MG z σ am w T L sa lo p ops k) (hc : CM z σ' am) (f : Fm am (fun _ => False) σ σ') (hw : hp_wf (ov σ am 7 w)) : MG z σ' am w T L sa lo p ops k := h.fx hc f (fun _ q => q.elim) hw
end MPair
/-- two parts make one -/
def PairR (am : Nat → Nat) (lo : Nat) (opc : Int32) (kdf : Nat → Int32) (mk : Nat → Ex → Ex → Ex) (vd : Nat → Prop) : Prop := ∀ (o : Nat) (σ : Hp) (m1 m2 : Ex) (n x y a c1 c2 e2 e h k1 k2 hl hh : Nat), vd o → ND σ n (n + 1) opc (kdf o) [x, y] 2 → c1 ≤ c2 → e2 ≤ n → n + 2 ≤ e → (∀ r, hl ≤ r → r < hh → c1 ≤ r ∧ r < c2) → RepN m1 lo a c1 σ am x h k1 → RepN m2 lo c2 e2 σ am y h k2 → RepH (mk o m1 m2) lo a e hl hh σ am n (h + 1) (k1 + k2 + 1)
