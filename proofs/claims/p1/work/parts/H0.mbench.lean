/-! ===== the reference as a bench ===== -/
/-- its own values: the registers 0 .. 7, THE VALUE 8 -/
def Vs (σ : Hp) (am : Nat → Nat) (bc b0 : Nat) (vs ts : Nat → Nat) (S : Nat → Va) : Prop := (∀ i, i < 9 → VM σ am (vs i) (S i) ∧ σ.A 73 (vs i) = some (ts i) ∧ (bc ≤ vs i ∧ vs i < b0) ∧ (bc ≤ ts i ∧ ts i < b0)) ∧ ∀ i j, i < 9 → j < 9 → vs i = vs j ∨ ts i = ts j → i = j
/-- its pool -/
def Pl (z : State) (σ : Hp) (am : Nat → Nat) (w : Wd) (bc b0 sa : Nat) (q : Po) : Prop := PoolOK z σ am w q ∧ (bc ≤ q.pa ∧ q.pa < σ.nx) ∧ ∀ i, i < q.hw → (b0 ≤ q.pv i ∧ q.pv i < σ.nx) ∧ (b0 ≤ q.pt i ∧ q.pt i < σ.nx) ∧ q.pt i ≠ sa
/-- its row of bytes -/
def Sr (σ : Hp) (am : Nat → Nat) (w : Wd) (bc sa : Nat) (ts : Nat → Nat) : Prop := w.A 0 42 = some sa ∧ σ.tag sa = 21 ∧ mx am sa ∧ (bc ≤ sa ∧ sa < σ.nx) ∧ (64 ≤ σ.len sa ∧ σ.len sa ≤ 2000) ∧ ∀ i, i < 9 → sa ≠ ts i
/-- its X -/
def Rt (σ : Hp) (am : Nat → Nat) (w : Wd) (b0 sa : Nat) (q : Po) : Option Ex → Prop
  | none => w.A 0 58 = none
  | some m => ∃ n lo nlo nhi h kv, w.A 0 58 = some n ∧ RepN m lo nlo nhi σ am n h kv ∧ b0 ≤ lo ∧ nhi ≤ σ.nx ∧ h ≤ 420 ∧ kv ≤ 2000 ∧ ¬ (lo ≤ q.pa ∧ q.pa < nhi) ∧ ¬ (lo ≤ sa ∧ sa < nhi) ∧ ∀ i, i < q.hw → ¬ (lo ≤ q.pv i ∧ q.pv i < nhi) ∧ ¬ (lo ≤ q.pt i ∧ q.pt i < nhi)
/-- what of its cells stands fast -/
def MC (z : State) (σ : Hp) (am : Nat → Nat) (w : Wd) (bc b0 : Nat) : Prop := CM z σ am ∧ MLk w am ∧ MSt z σ ∧ z.heap.size ≤ bc ∧ (∀ i, i < 7 → bc ≤ am i ∧ am i < b0) ∧ b0 ≤ σ.nx ∧ ∀ k, k < 6 → w.eA 6 k = some (strZ z "TruthBenchModel" (cmi k))
/-- the world's numbers -/
def MN (w : Wd) (a : Ab) : Prop := w.I 0 55 = nI a.n ∧ w.eI 2 = a.T ∧ (∀ r, r < 8 → w.eI 4 r = mty (a.kn r)) ∧ w.I 0 60 = a.pl ∧ w.I 0 61 = a.er
/-- what has been paid -/
def MP (σ : Hp) (a : Ab) (q : Po) (sa c s : Nat) : Prop := σ.nx + 20 * a.n ≤ c + 2 * q.hw + q.P + σ.len sa ∧ σ.sl + 360 * a.n ≤ s + 44 * q.hw + 2 * q.P + 2 * σ.len sa
/-- the reference's cells stand for a -/
def MI (z : State) (σ : Hp) (am : Nat → Nat) (w : Wd) (a : Ab) (bc ou c s : Nat) : Prop := ∃ b0 vs ts S q sa, MC z σ am w bc b0 ∧ (σ.tag ou = 23 ∧ bc ≤ ou ∧ ou < b0) ∧ (Vs σ am bc b0 vs ts S ∧ (∀ r, r < 8 → w.eA 3 r = some (vs r)) ∧ w.A 0 59 = some (vs 8) ∧ (∀ r, r < 8 → S r = a.R r) ∧ S 8 = a.hv) ∧ Sr σ am w bc sa ts ∧ Pl z σ am w bc b0 sa q ∧ Rt σ am w b0 sa q a.X ∧ MN w a ∧ MP σ a q sa c s
theorem VM.txt {σ : Hp} {am : Nat → Nat} {v t : Nat} {x : Va} (h : VM σ am v x) (ht : σ.A 73 v = some t) : σ.tag t = 21 ∧ mx am t ∧ σ.len t = 40 := by
  obtain ⟨-, -, -, m, -, -, t9, ht9, tt, mt, lt, -⟩ := h
  obtain rfl : t9 = t := Option.some.inj (ht9.symm.trans ht)
  exact ⟨tt, mt, lt⟩
theorem PoolOK.mv {z : State} {σ σ' : Hp} {am : Nat → Nat} {w : Wd} {q : Po} (h : PoolOK z σ am w q) (s0 : SameC σ σ' q.pa) (s1 : ∀ i, i < q.hw → SameC σ σ' (q.pv i) ∧ SameC σ σ' (q.pt i)) : PoolOK z σ' am w q := by
  obtain ⟨p1, p2, p3, p4, p5, p6, p7, p8, p9, p10, p11, p12, p13, p14⟩ := h
  refine ⟨p1, s0.1.trans p2, p3, p4, s0.2.1.trans p5, p6, p7, p8, p9, p10, p11, fun i hi => ?_, fun i h1 h2 => by rw [s0.2.2.2.2.2]; exact p13 i h1 h2, p14⟩
  obtain ⟨e1, v1, v2, v3, v4, v5, v6, v7⟩ := p12 i hi
  obtain ⟨a1, a2⟩ := s1 i hi
  exact ⟨by rw [s0.2.2.2.2.2]; exact e1, a1.1.trans v1, (a1.2.2.1 73).2.2.trans v2, a2.1.trans v3, v4, a2.2.1.trans v5, v6, v7⟩
section MBench
variable {z : State} {σ σ' : Hp} {am : Nat → Nat} {w w' : Wd} {a a' : Ab} {bc ou b0 c s sa : Nat} {q : Po} {vs ts : Nat → Nat} {S : Nat → Va}
theorem MC.old (h : MC z σ am w bc b0) {x : Nat} (hx : x < z.heap.size) : x < σ.nx ∧ mx am x := by
  obtain ⟨h1, h2, h3, h4, h5, h6, h7⟩ := h
  have := h5 0 (by decide)
  exact ⟨by omega, h1.old hx⟩
theorem MC.hi (h : MC z σ am w bc b0) {x : Nat} (hx : b0 ≤ x) : mx am x := fun i hi e => by
  have := (h.2.2.2.2.1 i hi).2
  omega
theorem MC.mv (h : MC z σ am w bc b0) (hc : CM z σ' am) (f : ∀ x, x < σ.nx → mx am x → x < z.heap.size → SameC σ σ' x) (hn : σ.nx ≤ σ'.nx) : MC z σ' am w bc b0 := by
  obtain ⟨h1, h2, h3, h4, h5, h6, h7⟩ := id h
  exact ⟨hc, h2, h3.mv (fun b hb => f b (h.old hb).1 (h.old hb).2 hb), h4, h5, by omega, h7⟩
theorem rt_mv {X : Option Ex} (h : Rt σ am w b0 sa q X) (f : ∀ x, x < σ.nx → b0 ≤ x → x ≠ sa → SameC σ σ' x) (hn : σ.nx ≤ σ'.nx) : Rt σ' am w b0 sa q X := by
  cases X with
  | none => exact h
  | some m =>
    obtain ⟨n, lo, nlo, nhi, h9, kv, r1, r2, r3, r4, r5, r6, r7, r8, r9⟩ := h
    have ag : Ag lo nlo nhi 0 0 σ σ' := fun x hx => by
      have hl : lo ≤ x ∧ x < nhi := by
        rcases hx with q9 | q9
        · exact ⟨by have := q9.1; have := r2.1; omega, q9.2.1⟩
        · exact ⟨q9.1, q9.2.1⟩
      exact (f x (by omega) (by omega) (fun e => r8 (by rw [← e]; exact hl))).sx
    exact ⟨n, lo, nlo, nhi, h9, kv, r1, r2.mv ag, r3, by omega, r5, r6, r7, r8, r9⟩
/-- what is not its own may change -/
theorem MI.fr {dc ds : Nat} (h : MI z σ am w a bc ou c s) (hc : CM z σ' am) (htag : σ'.tag ou = 23) (f : ∀ x, x < σ.nx → mx am x → x ≠ ou → bc ≤ x ∨ x < z.heap.size → SameC σ σ' x) (hn : σ.nx ≤ σ'.nx) (n1 : σ'.nx ≤ σ.nx + dc) (n2 : σ'.sl ≤ σ.sl + ds) : MI z σ' am w a bc ou (c + dc) (s + ds) := by
  obtain ⟨b0, vs, ts, S, q, sa, hM, hO, ⟨⟨v1, v2⟩, v3, v4, v5, v6⟩, ⟨s1, s2, s3, s4, s5, s6⟩, ⟨p1, p2, p3⟩, hR, hN, hP⟩ := h
  have b9 : bc ≤ b0 := by have := hM.2.2.2.2.1 0 (by decide); omega
  have n9 : b0 ≤ σ.nx := hM.2.2.2.2.2.1
  have hz := hM.2.2.2.1
  have ne : ∀ {x t : Nat}, σ.tag x = t → t ≠ 23 → x ≠ ou := fun {x t} ht hne e => by rw [e, hO.1] at ht; exact hne ht.symm
  have sS := f sa s4.2 s3 (ne s2 (by decide)) (Or.inl s4.1)
  refine ⟨b0, vs, ts, S, q, sa, hM.mv hc (fun x h1 h2 h3 => f x h1 h2 (by omega) (Or.inr h3)) hn, ⟨htag, hO.2⟩, ⟨⟨fun i hi => ?_, v2⟩, v3, v4, v5, v6⟩, ⟨s1, sS.1.trans s2, s3, ⟨s4.1, by omega⟩, by rw [sS.2.1]; exact s5, s6⟩, ⟨p1.mv (f _ p2.2 p1.2.2.1 (ne p1.2.1 (by decide)) (Or.inl p2.1)) (fun i hi => ?_), ⟨p2.1, by omega⟩, fun i hi => ?_⟩, rt_mv hR (fun x h1 h2 _ => f x h1 (hM.hi h2) (by omega) (Or.inl (by omega))) hn, hN, ?_⟩
  · obtain ⟨a1, a2, a3, a4⟩ := v1 i hi
    have f1 := f (vs i) (by omega) (hM.1.out a1.1 rfl) (ne a1.1 (by decide)) (Or.inl a3.1)
    refine ⟨a1.mv f1 (fun t ht => ?_), (f1.2.2.1 73).2.2.trans a2, a3, a4⟩
    obtain rfl : ts i = t := Option.some.inj (a2.symm.trans ht)
    exact f _ (by omega) (a1.txt a2).2.1 (ne (a1.txt a2).1 (by decide)) (Or.inl a4.1)
  · obtain ⟨a1, a2, a3⟩ := p3 i hi
    obtain ⟨-, w1, w2, w3, -⟩ := p1.2.2.2.2.2.2.2.2.2.2.2.1 i hi
    exact ⟨f _ a1.2 (hM.hi a1.1) (ne w1 (by decide)) (Or.inl (by omega)), f _ a2.2 (hM.hi a2.1) (ne w3 (by decide)) (Or.inl (by omega))⟩
  · obtain ⟨a1, a2, a3⟩ := p3 i hi
    exact ⟨⟨a1.1, by omega⟩, ⟨a2.1, by omega⟩, a3⟩
  · obtain ⟨q1, q2⟩ := hP
    exact ⟨by rw [sS.2.1]; omega, by rw [sS.2.1]; omega⟩
/-- numbers of the world change -/
theorem MI.wd {c' s' : Nat} (h : MI z σ am w a bc ou c s) (hA : w'.A = w.A) (heA : w'.eA = w.eA) (h41 : w'.I 0 41 = w.I 0 41) (eR : a'.R = a.R) (eh : a'.hv = a.hv) (eX : a'.X = a.X) (hN : MN w' a') (e1 : c + 20 * a'.n ≤ c' + 20 * a.n) (e2 : s + 360 * a'.n ≤ s' + 360 * a.n) : MI z σ am w' a' bc ou c' s' := by
  obtain ⟨b0, vs, ts, S, q, sa, ⟨h1, h2, h3, h4, h5, h6, h7⟩, hO, ⟨hV, v3, v4, v5, v6⟩, ⟨s1, s2⟩, ⟨⟨p1, p2, p3, p4, p5, p6, p7⟩, p8⟩, hR, -, hP⟩ := h
  refine ⟨b0, vs, ts, S, q, sa, ⟨h1, fun x hx => by rw [hA]; exact h2 x hx, h3, h4, h5, h6, fun k hk => by rw [heA]; exact h7 k hk⟩, hO, ⟨hV, fun r hr => by rw [heA]; exact v3 r hr, by rw [hA]; exact v4, by rw [eR]; exact v5, by rw [eh]; exact v6⟩, ⟨by rw [hA]; exact s1, s2⟩, ⟨⟨by rw [hA]; exact p1, p2, p3, p4, p5, h41.trans p6, p7⟩, p8⟩, ?_, hN, ?_⟩
  · rw [eX]
    cases hX : a.X with
    | none =>
      rw [hX] at hR
      exact (show w'.A 0 58 = none by rw [hA]; exact hR)
    | some m =>
      rw [hX] at hR
      obtain ⟨n, lo, nlo, nhi, h9, kv, r1, r2⟩ := hR
      exact ⟨n, lo, nlo, nhi, h9, kv, by rw [hA]; exact r1, r2⟩
  · obtain ⟨q1, q2⟩ := hP
    exact ⟨by omega, by omega⟩
/-- one of its values changes -/
theorem MI.up {i : Nat} (hi : i < 9) (h : MI z σ am w a bc ou c s) : ∃ v t, VM σ am v (if i < 8 then a.R i else a.hv) ∧ σ.A 73 v = some t ∧ ((bc ≤ v ∧ v ≠ ou) ∧ z.heap.size ≤ v) ∧ ((bc ≤ t ∧ t ≠ ou) ∧ z.heap.size ≤ t) ∧ (i < 8 → w.eA 3 i = some v) ∧ (i = 8 → w.A 0 59 = some v) ∧
    ∀ (σ' : Hp) (w' : Wd) (a' : Ab) (x : Va) (c' s' : Nat), CM z σ' am → (∀ y, y ≠ v → y ≠ t → SameC σ σ' y) → σ'.nx = σ.nx → σ'.sl = σ.sl → VM σ' am v x → σ'.A 73 v = some t → w'.A = w.A → w'.eA = w.eA → w'.I 0 41 = w.I 0 41 → (∀ r, r < 8 → a'.R r = if r = i then x else a.R r) → (a'.hv = if i = 8 then x else a.hv) → a'.X = a.X → MN w' a' → c + 20 * a'.n ≤ c' + 20 * a.n → s + 360 * a'.n ≤ s' + 360 * a.n → MI z σ' am w' a' bc ou c' s' := by
  obtain ⟨b0, vs, ts, S, q, sa, hM, hO, ⟨⟨v1, v2⟩, v3, v4, v5, v6⟩, ⟨s1, s2, s3, s4, s5, s6⟩, ⟨p1, p2, p3⟩, hR, hN0, hP⟩ := h
  have bz := hM.2.2.2.1
  obtain ⟨a1, a2, a3, a4⟩ := v1 i hi
  obtain ⟨at1, at2, at3⟩ := a1.txt a2
  have eS : S i = if i < 8 then a.R i else a.hv := by
    by_cases q9 : i < 8
    · rw [if_pos q9]; exact v5 i q9
    · rw [if_neg q9, show i = 8 by omega]; exact v6
  have ne : ∀ {x t : Nat}, σ.tag x = t → t ≠ 23 → x ≠ ou := fun {x t} ht hne e => by rw [e, hO.1] at ht; exact hne ht.symm
  have nv := ne a1.1 (by decide)
  have ntt := ne at1 (by decide)
  refine ⟨vs i, ts i, by rw [← eS]; exact a1, a2, ⟨⟨a3.1, nv⟩, by omega⟩, ⟨⟨a4.1, ntt⟩, by omega⟩, fun q9 => v3 i q9, fun q9 => by rw [q9]; exact v4, fun σ' w' a' x c' s' hc f n1 n2 hV hT hA heA h41 eR eh eX hN e1 e2 => ?_⟩
  have hle : b0 ≤ σ.nx := hM.2.2.2.2.2.1
  have nt : ∀ j, j < 9 → vs j ≠ ts i := fun j hj e => by
    have := (v1 j hj).1.1
    rw [e, at1] at this
    exact absurd this (by decide)
  have tn : ∀ j, j < 9 → ts j ≠ vs i := fun j hj e => by
    have := ((v1 j hj).1.txt (v1 j hj).2.1).1
    rw [e, a1.1] at this
    exact absurd this (by decide)
  have hi9 : ∀ y, b0 ≤ y → SameC σ σ' y := fun y hy => f y (by omega) (by omega)
  have fs := f sa (fun e => by rw [e, a1.1] at s2; exact absurd s2 (by decide)) (s6 i hi)
  have fp := f q.pa (fun e => by have := p1.2.1; rw [e, a1.1] at this; exact absurd this (by decide)) (fun e => by have := p1.2.1; rw [e, at1] at this; exact absurd this (by decide))
  have hM' : MC z σ' am w bc b0 := hM.mv hc (fun y _ _ hy => f y (by omega) (by omega)) (by omega)
  obtain ⟨h1, h2, h3, h4, h5, h6, h7⟩ := hM'
  obtain ⟨q1, q2, q3, q4, q5, q6, q7⟩ := p1.mv fp (fun j hj => ⟨hi9 _ (p3 j hj).1.1, hi9 _ (p3 j hj).2.1.1⟩)
  have hR' := rt_mv (σ' := σ') hR (fun y _ hy _ => hi9 y hy) (by omega)
  refine ⟨b0, vs, ts, va_up S i x, q, sa, ⟨h1, fun y hy => by rw [hA]; exact h2 y hy, h3, h4, h5, h6, fun k hk => by rw [heA]; exact h7 k hk⟩, ⟨(f ou (fun e => nv e.symm) (fun e => ntt e.symm)).1.trans hO.1, hO.2⟩, ⟨⟨fun j hj => ?_, v2⟩, fun r hr => by rw [heA]; exact v3 r hr, by rw [hA]; exact v4, fun r hr => ?_, ?_⟩, ⟨by rw [hA]; exact s1, fs.1.trans s2, s3, by omega, by rw [fs.2.1]; exact s5, s6⟩, ⟨⟨by rw [hA]; exact q1, q2, q3, q4, q5, h41.trans q6, q7⟩, by omega, fun j hj => by rw [n1]; exact p3 j hj⟩, ?_, hN, ?_⟩
  · by_cases e : j = i
    · rw [e, hp_up_same]
      exact ⟨hV, hT, a3, a4⟩
    · rw [hp_up_ne _ _ e]
      obtain ⟨b1, b2, b3, b4⟩ := v1 j hj
      have f1 := f (vs j) (fun e9 => e (v2 j i hj hi (Or.inl e9))) (nt j hj)
      refine ⟨b1.mv f1 (fun t ht => ?_), (f1.2.2.1 73).2.2.trans b2, b3, b4⟩
      obtain rfl : ts j = t := Option.some.inj (b2.symm.trans ht)
      exact f _ (tn j hj) (fun e9 => e (v2 j i hj hi (Or.inr e9)))
  · rw [eR r hr]
    by_cases e : r = i
    · rw [if_pos e, e, hp_up_same]
    · rw [if_neg e, hp_up_ne _ _ e]; exact v5 r hr
  · rw [eh]
    by_cases e : i = 8
    · rw [if_pos e, e, hp_up_same]
    · rw [if_neg e, hp_up_ne _ _ (fun e9 => e e9.symm)]; exact v6
  · rw [eX]
    cases hX : a.X with
    | none =>
      rw [hX] at hR'
      exact (show w'.A 0 58 = none by rw [hA]; exact hR')
    | some m =>
      rw [hX] at hR'
      obtain ⟨n, lo, nlo, nhi, h9, kv, r1, r2⟩ := hR'
      exact ⟨n, lo, nlo, nhi, h9, kv, by rw [hA]; exact r1, r2⟩
  · obtain ⟨t1, t2⟩ := hP
    exact ⟨by rw [n1, fs.2.1]; omega, by rw [n2, fs.2.1]; omega⟩
end MBench
