/-! ===== the reference's calls: read ===== -/
section MRead
variable {z : State} {l : Launch} {d : Nat} {σ : Hp} {am : Nat → Nat} {w : Wd} {a : Ab} {bc ou c s : Nat} {Q : Outcome → Hp → Prop}
theorem tok0 {T : Nat → Int32} {L p : Nat} (h : TokM σ am w T L p) : w.I 0 44 = 0 ↔ tk_g T L p = 33 := by
  obtain ⟨-, h⟩ := h
  rcases h with h | h | h | h | h | h | h | h
  · exact ⟨fun e => absurd (h.2.1.symm.trans e) (by decide), fun e => by omega⟩
  · exact ⟨fun e => absurd (h.2.1.symm.trans e) (by decide), fun e => by omega⟩
  · exact ⟨fun e => absurd (h.2.1.symm.trans e) (by decide), fun e => by omega⟩
  · exact ⟨fun e => absurd (h.2.1.symm.trans e) (by decide), fun e => by omega⟩
  · exact ⟨fun e => absurd (h.2.2.1.symm.trans e) (by decide), fun e => by omega⟩
  · exact ⟨fun e => absurd (h.2.1.symm.trans e) (by decide), fun e => by omega⟩
  · exact ⟨fun _ => h.1, fun _ => h.2⟩
  · exact ⟨fun e => absurd (h.2.symm.trans e) (by decide), fun e => by omega⟩
theorem ma_read (h : MI z σ am w a bc ou c s) (ha : a.ok) (k : MQr z am bc ou σ (sp_rd a).2.2 c s (sp_rd a).1 Q (some (.int (sp_rd a).2.1))) : Go z l mt_M_read (d + 331) 0 [.ref (am 0), .retAddr 0, .retAddr 0] [] (ov σ am 7 w) Q := by
  refine go_wf fun hwf => ?_
  have hn9 := ha.1
  obtain ⟨b0, vs, ts, S, q, sa, hM, hO, ⟨⟨v1, v2⟩, v3, v4, v5, v6⟩, ⟨s1, s2, s3, s4, s5, s6⟩, ⟨p1, p2, p3⟩, hR, ⟨n1, n2, n3, n4, n5⟩, hP⟩ := h
  have b9 : bc ≤ b0 := by have := hM.2.2.2.2.1 0 (by decide); omega
  have hle : b0 ≤ σ.nx := hM.2.2.2.2.2.1
  have hz := hM.2.2.2.1
  have oux : ∀ x, x < bc ∨ x = ou → mx am x := fun x hx => by
    rcases hx with e | e
    · exact fun i hi e9 => by have := (hM.2.2.2.2.1 i hi).1; omega
    · rw [e]; exact hM.1.out hO.1 rfl
  have ousa : ∀ (x sa1 : Nat), (x < bc ∨ x = ou) → bc ≤ sa1 → (sa1 = sa ∨ σ.nx ≤ sa1) → x ≠ sa1 := fun x sa1 hx hb ho e => by
    rcases hx with h1 | h1
    · omega
    · rcases ho with r | r
      · rw [← r, ← e, h1, hO.1] at s2; exact absurd s2 (by decide)
      · have := hO.2.2; omega
  have isBT : ∀ i, isB (a.T i) := fun i => by
    have e := hwf.2 (am 2) (hM.1.tag (i := 2) (by decide) rfl) i
    rw [ov_eI hM.1.1 (show 2 < 7 by decide), n2] at e
    exact e
  -- what is left of the bench behind the reading, if its X is given
  have fin : ∀ (σ' : Hp) (w' : Wd) (sa1 : Nat) (X : Option Ex) (pl : Int32), CM z σ' am → (∀ x, x < σ.nx → mx am x → x ≠ sa1 → SameC σ σ' x) → σ'.tag sa1 = 21 → mx am sa1 → (bc ≤ sa1 ∧ sa1 < σ'.nx) → (64 ≤ σ'.len sa1 ∧ σ'.len sa1 ≤ 2000) → (sa1 = sa ∨ σ.nx ≤ sa1) → σ.nx ≤ σ'.nx → σ'.nx + σ.len sa ≤ σ.nx + 20 * a.n + σ'.len sa1 → σ'.sl + 2 * σ.len sa ≤ σ.sl + 360 * a.n + 2 * σ'.len sa1 →
      (∀ f, f ≠ 42 → f ≠ 58 → ¬ (44 ≤ f ∧ f ≤ 51) → w'.A 0 f = w.A 0 f) → w'.A 0 42 = some sa1 → w'.eA = w.eA → w'.eI = w.eI → w'.I 0 41 = w.I 0 41 → w'.I 0 55 = 0 → w'.I 0 60 = pl → w'.I 0 61 = w.I 0 61 → Rt σ' am w' b0 sa1 q X → MI z σ' am w' (a.T, 0, a.kn, a.R, a.hv, X, pl, a.er) bc ou c s := by
    intro σ' w' sa1 X pl hc f t1 m1 b1 l1 o1 nx1 pn ps hA h42 heA heI h41 h55 h60 h61 hR'
    have tsne : ∀ i, i < 9 → sa1 ≠ ts i := fun i hi => by
      rcases o1 with e | e
      · rw [e]; exact s6 i hi
      · have := (v1 i hi).2.2.2; omega
    have so := f ou (by omega) (hM.1.out hO.1 rfl) (fun e => by
      rcases o1 with r | r
      · rw [r] at e; rw [← e, hO.1] at s2; exact absurd s2 (by decide)
      · omega)
    have fx : ∀ x, x < b0 → mx am x → x ≠ sa1 → SameC σ σ' x := fun x hx hm hs => f x (by omega) hm hs
    refine ⟨b0, vs, ts, S, q, sa1, ⟨hc, fun y hy => ?_, hM.2.2.1.mv (fun y hy => f y (by omega) (hM.1.old hy) (fun e => by have := b1.1; omega)), hz, hM.2.2.2.2.1, by omega, by rw [heA]; exact hM.2.2.2.2.2.2⟩, ⟨so.1.trans hO.1, hO.2⟩, ⟨⟨fun i hi => ?_, v2⟩, by rw [heA]; exact v3, (hA 59 (by decide) (by decide) (by decide)).trans v4, v5, v6⟩, ⟨h42, t1, m1, b1, l1, tsne⟩, ⟨?_, by omega, fun i hi => ?_⟩, hR', ⟨h55, by rw [heI]; exact n2, by rw [heI]; exact n3, h60, h61.trans n5⟩, ?_⟩
    · have e := (by decide : ∀ y ∈ mn_tab, y.1 = 0 ∧ y.2.1 ≠ 42 ∧ y.2.1 ≠ 58 ∧ ¬ (44 ≤ y.2.1 ∧ y.2.1 ≤ 51)) y hy
      have e9 := hM.2.1 y hy
      rw [e.1] at e9 ⊢
      exact (hA _ e.2.1 e.2.2.1 e.2.2.2).trans e9
    · obtain ⟨a1, a2, a3, a4⟩ := v1 i hi
      obtain ⟨g1, g2, g3⟩ := a1.txt a2
      have f1 := fx (vs i) a3.2 (hM.1.out a1.1 rfl) (fun e => by
        rcases o1 with r | r
        · rw [r] at e; rw [← e, a1.1] at s2; exact absurd s2 (by decide)
        · omega)
      refine ⟨a1.mv f1 (fun t ht => ?_), (f1.2.2.1 73).2.2.trans a2, a3, a4⟩
      obtain rfl : ts i = t := Option.some.inj (a2.symm.trans ht)
      exact fx _ a4.2 g2 (fun e => tsne i hi e.symm)
    · have sp : SameC σ σ' q.pa := f q.pa p2.2 p1.2.2.1 (fun e => by
        rcases o1 with r | r
        · rw [r] at e; have e8 := p1.2.1; rw [e, s2] at e8; exact absurd e8 (by decide)
        · have := p2.2; omega)
      have sv : ∀ i, i < q.hw → SameC σ σ' (q.pv i) ∧ SameC σ σ' (q.pt i) := fun i hi => by
        obtain ⟨a1, a2, a3⟩ := p3 i hi
        obtain ⟨-, w1, w2, w3, w4, -⟩ := p1.2.2.2.2.2.2.2.2.2.2.2.1 i hi
        refine ⟨f _ a1.2 (hM.hi a1.1) (fun e => ?_), f _ a2.2 (hM.hi a2.1) (fun e => ?_)⟩
        · rcases o1 with r | r
          · rw [r] at e; rw [e, s2] at w1; exact absurd w1 (by decide)
          · omega
        · rcases o1 with r | r
          · rw [r] at e; exact a3 e
          · omega
      obtain ⟨u1, u2⟩ := p1.mv sp sv
      obtain ⟨u2, u3, u4, u5, u6, u7⟩ := u2
      exact ⟨(hA 40 (by decide) (by decide) (by decide)).trans u1, u2, u3, u4, u5, h41.trans u6, u7⟩
    · obtain ⟨a1, a2, a3⟩ := p3 i hi
      refine ⟨by omega, by omega, ?_⟩
      rcases o1 with r | r
      · rw [r]; exact a3
      · omega
    · obtain ⟨t1, t2⟩ := hP
      exact ⟨show σ'.nx + 20 * 0 ≤ _ by omega, show σ'.sl + 360 * 0 ≤ _ by omega⟩
  -- the text is broken
  have brk : ∀ (e : Nat), sp_read a.T a.n = .error e → ∀ (σ' : Hp) (w' : Wd) (sa1 : Nat), CM z σ' am → (∀ x, x < σ.nx → mx am x → x ≠ sa1 → SameC σ σ' x) → σ'.tag sa1 = 21 → mx am sa1 → (bc ≤ sa1 ∧ sa1 < σ'.nx) → (64 ≤ σ'.len sa1 ∧ σ'.len sa1 ≤ 2000) → (sa1 = sa ∨ σ.nx ≤ sa1) → σ.nx ≤ σ'.nx → σ'.nx + σ.len sa ≤ σ.nx + 20 * a.n + σ'.len sa1 → σ'.sl + 2 * σ.len sa ≤ σ.sl + 360 * a.n + 2 * σ'.len sa1 →
      (∀ f, f ≠ 42 → ¬ (44 ≤ f ∧ f ≤ 51) → w'.A 0 f = w.A 0 f) → w'.A 0 42 = some sa1 → w'.eA = w.eA → w'.eI = w.eI → w'.I 0 41 = w.I 0 41 → w'.I 0 55 = 0 → w'.I 0 60 = nI e → w'.I 0 61 = w.I 0 61 → ∀ ls1, Go z l mt_M_read (d + 331) 117 [.ref (am 0), ls1, .retAddr 0] [.ref (am 1)] (ov σ' am 7 w') Q := by
    intro e he σ' w' sa1 hc f t1 m1 b1 l1 o1 nx1 pn ps hA h42 heA heI h41 h55 h60 h61 ls1
    unfold sp_rd at k
    rw [he] at k
    refine go_drop 1 (cm_M_read_117 (d := d + 322) hc (k σ' _ ((fin σ' (w'.setI 0 62 1) sa1 a.X (nI e) hc f t1 m1 b1 l1 o1 nx1 pn ps (fun f h1 _ h3 => hA f h1 h3) h42 heA heI h41 h55 h60 h61 ?_)) (fun x hx => f x (by have := hO.2.2; omega) (oux x hx) (ousa x sa1 hx b1.1 o1)) nx1 rfl))
    have r58 : w'.A 0 58 = w.A 0 58 := hA 58 (by decide) (by decide)
    have hR2 := rt_mv (σ' := σ') hR (fun x h1 h2 h3 => f x h1 (hM.hi h2) (fun e9 => by
      rcases o1 with r | r
      · exact h3 (e9.trans r)
      · omega)) nx1
    cases hX : a.X with
    | none =>
      rw [hX] at hR2
      exact r58.trans hR2
    | some m =>
      rw [hX] at hR2 hR
      obtain ⟨n, lo, nlo, nhi, h9, kv, r1, r2, r3, r4, r5, r6, r7, r8, r9⟩ := hR
      obtain ⟨n', lo', nlo', nhi', h9', kv', y1, y2, y3, y4, y5, y6, y7, y8, y9⟩ := hR2
      refine ⟨n, lo, nlo, nhi, h9, kv, r58.trans r1, r2.mv (fun x hx => ?_), r3, by omega, r5, r6, r7, ?_, r9⟩
      · have hl : lo ≤ x ∧ x < nhi := by
          rcases hx with q9 | q9
          · exact ⟨by have := q9.1; have := r2.1; omega, q9.2.1⟩
          · exact ⟨q9.1, q9.2.1⟩
        refine (f x (by omega) (hM.hi (by omega)) (fun e9 => ?_)).sx
        rcases o1 with r | r
        · exact r8 (by rw [← r, ← e9]; exact hl)
        · omega
      · rcases o1 with r | r
        · rw [r]; exact r8
        · omega
  -- the bytes are there: the signs are read
  have run : ∀ (σ2 : Hp) (w2 : Wd) (sa1 : Nat), CM z σ2 am → (∀ x, x < σ.nx → mx am x → x ≠ sa1 → SameC σ σ2 x) → σ2.tag sa1 = 21 → mx am sa1 → (bc ≤ sa1 ∧ sa1 < σ2.nx) → (64 ≤ σ2.len sa1 ∧ σ2.len sa1 ≤ 2000) → (sa1 = sa ∨ σ.nx ≤ sa1) → σ.nx ≤ σ2.nx → σ2.nx + σ.len sa ≤ σ.nx + σ2.len sa1 → σ2.sl + 2 * σ.len sa ≤ σ.sl + 2 * σ2.len sa1 → a.n ≤ σ2.len sa1 → (∀ i, i < a.n → σ2.eI sa1 i = a.T i) →
      (∀ f, f ≠ 42 → w2.A 0 f = w.A 0 f) → w2.A 0 42 = some sa1 → w2.eA = w.eA → w2.eI = w.eI → w2.I 0 41 = w.I 0 41 → w2.I 0 43 = nI a.n → w2.I 0 46 = 0 → w2.I 0 50 = 0 → w2.I 0 51 = 0 → w2.I 0 55 = 0 → w2.I 0 60 = -1 → w2.I 0 61 = w.I 0 61 → ∀ vi : Int32, Go z l mt_M_next (d + 322 + 8) 0 [.ref (am 0), .retAddr 0, .retAddr 0, .retAddr 0] [] (ov σ2 am 7 w2) (fun o σ1 => hp_Le (ov σ2 am 7 w2) σ1 → gj_next z l mt_M_read (d + 322 + 9) 90 [.ref (am 0), .int vi, .retAddr 0] [] Q o σ1) := by
    intro σ2 w2 sa1 hc f t1 m1 b1 l1 o1 nx1 pn ps ln ei hA h42 heA heI h41 h43 h46 h50 h51 h55 h60 h61 vi
    have hl2 : MLk w2 am := fun y hy => by
      have e := (by decide : ∀ y ∈ mn_tab, y.1 = 0 ∧ y.2.1 ≠ 42) y hy
      have e9 := hM.2.1 y hy
      rw [e.1] at e9 ⊢
      exact (hA _ e.2).trans e9
    have st2 : MSt z σ2 := hM.2.2.1.mv (fun y hy => f y (by omega) (hM.1.old hy) (fun e => by have := b1.1; omega))
    have P2 : PM z σ2 am w2 a.T a.n sa1 := ⟨hc, hl2, h42, ⟨t1, m1, b1.2, ln, by omega, ei⟩, h43, hn9, isBT, st2, by omega, by rw [heA]; exact hM.2.2.2.2.2.2⟩
    refine go_eq (show d + 316 + 14 = d + 322 + 8 by omega) (mo_next (d := d + 316) (p := 0) P2 (Nat.zero_le _) h46 (fun σ3 w3 P3 F3 S3 tk tl bn bs => fun _ => gj_nextV (cm_M_read_93 (d := d + 322) P3.1 ?_)))
    have f3n := F3.1
    have eE := tk_El (T := a.T) (L := a.n) (p := 0) (Nat.zero_le _)
    have s3I : ∀ f, f < 44 ∨ 49 < f → w3.I 0 f = w2.I 0 f ∧ w3.A 0 f = w2.A 0 f := fun f hf => ⟨(S3.1 0 f (Or.inr hf)).1, (S3.1 0 f (Or.inr hf)).2.2⟩
    have am2 : ∀ i, i < 7 → am i < σ2.nx := fun i hi => by have := (hM.2.2.2.2.1 i hi).2; omega
    have G3 : MG z σ3 am w3 a.T a.n sa1 σ2.nx 0 0 0 := ⟨P3, tk, tl, Nat.zero_le _, (s3I 50 (by decide)).1.trans h50, (s3I 51 (by decide)).1.trans h51, by decide, by decide, f3n, am2⟩
    have X9 := rm_X (z := z) (l := l) (am := am) (T := a.T) (L := a.n) (sa := sa1) (lo := σ2.nx) 31 0 (by decide) (by decide)
    refine go_eq (show d + 10 * (30 - 0) + 30 + 0 = d + 322 + 8 by omega) (X9 d σ3 w3 0 0 _ G3 (fun o H hMO => ?_))
    -- frames
    have fr : ∀ {σ4 : Hp}, Fm am (fun _ => False) σ3 σ4 → ∀ x, x < σ.nx → mx am x → x ≠ sa1 → SameC σ σ4 x := fun {σ4} F4 x h1 h2 h3 => ((f x h1 h2 h3).trans (F3.2.2 x (by omega) h2 (fun q => q))).trans (F4.2.2 x (by omega) h2 (fun q => q))
    have frS : ∀ {σ4 : Hp}, Fm am (fun _ => False) σ3 σ4 → SameC σ2 σ4 sa1 := fun {σ4} F4 => (F3.2.2 sa1 b1.2 m1 (fun q => q)).trans (F4.2.2 sa1 (by have := b1.2; omega) m1 (fun q => q))
    have rd : sp_read a.T a.n = match sp_X a.T a.n 31 1 0 0 with
        | .error e => .error e
        | .ok (m, p, _) => if tk_g a.T a.n p = 33 then .ok m else .error (tk_s a.T a.n p) := rfl
    -- a broken text, in whatever place
    have out : ∀ (e : Nat) (σ4 : Hp) (w4 : Wd) (p' : Nat) (v : Value), sp_read a.T a.n = .error e → CM z σ4 am → Fm am (fun _ => False) σ3 σ4 → WT w3 w4 e → p' ≤ a.n → Bc a.T a.n σ3 σ4 0 p' → ∀ pc, covers (⟨89, 114, 117, 8⟩ : ExceptionTableEntry) pc = true → GoT z l mt_M_read (d + 322 + 9) pc [.ref (am 0), v, .retAddr 0] (am 1) (ov σ4 am 7 w4) Q := by
      intro e σ4 w4 p' v he c4 F4 W4 hp' B4 pc hpc
      have f4n := F4.1
      have ss := frS F4
      have eE' := tk_El (T := a.T) (L := a.n) (p := p') hp'
      obtain ⟨q1, q2⟩ := B4
      refine go_catch (t := 11) [] ⟨89, 114, 117, 8⟩ [] wr_split_read (fun y hy => absurd hy List.not_mem_nil) hpc (by decide) mw_1071 ml_1073 (by decide) (c4.tag (i := 1) (by decide) rfl) (c4.2 1 (by decide)).2.2 ?_
      have wI : ∀ f, f < 44 ∨ 51 < f → f ≠ 60 → w4.I 0 f = w2.I 0 f := fun f h1 h2 => ((W4.1 0 f (Or.inr h1)).1 ⟨Or.inr h2, Or.inl (by decide)⟩).trans (s3I f (by omega)).1
      have wA : ∀ f, f < 44 ∨ 51 < f → w4.A 0 f = w2.A 0 f := fun f h1 => ((W4.1 0 f (Or.inr h1)).2.2).trans (s3I f (by omega)).2
      exact brk e he σ4 w4 sa1 c4 (fr F4) (ss.1.trans t1) m1 ⟨b1.1, by have := b1.2; omega⟩ (by rw [ss.2.1]; exact l1) o1 (by omega) (by rw [ss.2.1]; omega) (by rw [ss.2.1]; omega) (fun f h1 h2 => (wA f (by omega)).trans (hA f h1)) ((wA 42 (by decide)).trans h42) ((W4.2.2.2.1.trans S3.2.2.2).trans heA) ((W4.2.1.trans S3.2.1).trans heI) ((wI 41 (by decide) (by decide)).trans h41) ((wI 55 (by decide) (by decide)).trans h55) W4.2.2.2.2.1 ((wI 61 (by decide) (by decide)).trans h61) v
    cases hr : sp_X a.T a.n 31 1 0 0 with
    | error e =>
      rw [show sp_X a.T a.n 31 (0 + 1) 0 0 = .error e from hr] at hMO
      rw [hr] at rd
      obtain ⟨rfl, σ4, w4, p', rfl, c4, F4, W4, hp', B4, he⟩ := hMO
      exact fun _ => gj_nextT (out e σ4 w4 p' _ rd c4 F4 W4 hp' B4 94 rfl)
    | ok y =>
      obtain ⟨m, p', o'⟩ := y
      rw [show sp_X a.T a.n 31 (0 + 1) 0 0 = .ok (m, p', o') from hr] at hMO
      rw [hr] at rd
      obtain ⟨n, σ4, w4, rfl, rfl, G4, ho4, hp4, F4, W4, B4, R4⟩ := hMO
      intro _
      have f4n := F4.1
      have t9 := tok0 G4.2.1
      refine gj_nextI (cm_M_read_97 (d := d + 322) G4.1.1 (fun e => ?_) (fun e => ?_))
      · have rd' : sp_read a.T a.n = .error (tk_s a.T a.n p') := rd.trans (if_neg (fun r => e (t9.mpr r)))
        refine go_eq (show d + 321 + 9 = d + 322 + 8 by omega) (cm_M_can (d := d + 321) G4.1.1 G4.1.2.1 (fun r => absurd rfl r) (fun _ => fun _ => gj_nextT (out _ σ4 _ p' _ rd' G4.1.1 F4 ?_ G4.2.2.2.1 B4 111 rfl)))
        exact WT.of W4 G4.2.1.1
      · have rd' : sp_read a.T a.n = .ok m := rd.trans (if_pos (t9.mp e))
        refine go_eq (show d + 321 + 9 = d + 322 + 8 by omega) (cm_M_can (d := d + 321) G4.1.1 G4.1.2.1 (fun _ => fun _ => gj_nextV (go_wf fun hw4 => cm_M_read_114 (d := d + 322) G4.1.1 ?_)) (fun r => absurd (show (1 : Int32) = 0 from r) (by decide)))
        have k9 := k
        unfold sp_rd at k9
        rw [rd'] at k9
        have ss := frS F4
        have eE' := tk_El (T := a.T) (L := a.n) (p := p') G4.2.2.2.1
        obtain ⟨q1, q2⟩ := B4
        have pl := G4.2.2.2.1
        have ol := G4.2.2.2.2.2.2.2.1
        have wI : ∀ f, f < 44 ∨ 51 < f → w4.I 0 f = w2.I 0 f := fun f h1 => ((W4.1 0 f (Or.inr h1)).1).trans (s3I f (by omega)).1
        have wA : ∀ f, f < 44 ∨ 51 < f → w4.A 0 f = w2.A 0 f := fun f h1 => ((W4.1 0 f (Or.inr h1)).2.2).trans (s3I f (by omega)).2
        rw [(wI 43 (by decide)).trans h43]
        refine k9 σ4 _ (fin σ4 ((w4.setI 0 62 0).setA 0 58 (some n)) sa1 (some m) (-1) G4.1.1 (fr F4) (ss.1.trans t1) m1 ⟨b1.1, by have := b1.2; omega⟩ (by rw [ss.2.1]; exact l1) o1 (by omega) (by rw [ss.2.1]; omega) (by rw [ss.2.1]; omega) (fun f h1 h2 h3 => ?_) ((wA 42 (by decide)).trans h42) ((W4.2.2.2.trans S3.2.2.2).trans heA) ((W4.2.1.trans S3.2.1).trans heI) ((wI 41 (by decide)).trans h41) ((wI 55 (by decide)).trans h55) ((wI 60 (by decide)).trans h60) ((wI 61 (by decide)).trans h61) ⟨n, σ2.nx, σ3.nx, σ4.nx, _, _, rfl, R4, by omega, Nat.le_refl _, by omega, by omega, fun r => by have := p2.2; omega, fun r => by have := b1.2; omega, fun i hi => by have := p3 i hi; constructor <;> omega⟩) (fun x hx => fr F4 x (by have := hO.2.2; omega) (oux x hx) (ousa x sa1 hx b1.1 o1)) (by omega) rfl
        show up22 w4.A 0 58 (some n) 0 f = _
        rw [up22_eq, if_neg (fun r => h2 r.2)]
        exact (wA f (by omega)).trans (hA f h1)
  -- the bytes are copied
  have cpy : ∀ (m i : Nat) (τ : Hp) (wc : Wd) (sa1 : Nat), i + m = a.n → CM z τ am → (∀ x, x < σ.nx → mx am x → x ≠ sa1 → SameC σ τ x) → τ.tag sa1 = 21 → mx am sa1 → (bc ≤ sa1 ∧ sa1 < τ.nx) → (64 ≤ τ.len sa1 ∧ τ.len sa1 ≤ 2000) → (sa1 = sa ∨ σ.nx ≤ sa1) → σ.nx ≤ τ.nx → τ.nx + σ.len sa ≤ σ.nx + τ.len sa1 → τ.sl + 2 * σ.len sa ≤ σ.sl + 2 * τ.len sa1 → a.n ≤ τ.len sa1 → (∀ i9, i9 < i → τ.eI sa1 i9 = a.T i9) →
      (∀ f, f ≠ 42 → wc.A 0 f = w.A 0 f) → wc.A 0 42 = some sa1 → wc.eA = w.eA → wc.eI = w.eI → wc.I 0 41 = w.I 0 41 → wc.I 0 43 = nI a.n → wc.I 0 55 = 0 → wc.I 0 60 = -1 → wc.I 0 61 = w.I 0 61 → Go z l mt_M_read (d + 331) 48 [.ref (am 0), .int (nI i), .retAddr 0] [] (ov τ am 7 wc) Q := by
    intro m
    induction m with
    | zero =>
      intro i τ wc sa1 hi hc f t1 m1 b1 l1 o1 nx1 pn ps ln d1 hA h42 heA heI h41 h43 h55 h60 h61
      have cc : wc.I 0 43 ≤ nI i := by rw [h43]; exact nI_le (by omega) (by omega)
      have hl2 : MLk wc am := fun y hy => by
        have e := (by decide : ∀ y ∈ mn_tab, y.1 = 0 ∧ y.2.1 ≠ 42) y hy
        have e9 := hM.2.1 y hy
        rw [e.1] at e9 ⊢
        exact (hA _ e.2).trans e9
      exact cm_M_read_48 (d := d + 322) (b1 := sa1) hc hl2 m1 t1 (by have := b1.1; omega) (fun _ => run τ (((wc.setI 0 46 0).setI 0 50 0).setI 0 51 0) sa1 hc f t1 m1 b1 l1 o1 nx1 pn ps ln (fun i9 h9 => d1 i9 (by omega)) hA h42 heA heI h41 h43 rfl rfl rfl h55 h60 h61 _) (fun q9 => absurd cc q9) (fun q9 => absurd cc q9) (fun q9 => absurd cc q9) (fun q9 => absurd cc q9)
    | succ m ih =>
      intro i τ wc sa1 hi hc f t1 m1 b1 l1 o1 nx1 pn ps ln d1 hA h42 heA heI h41 h43 h55 h60 h61
      have cc : ¬ wc.I 0 43 ≤ nI i := by rw [h43]; exact nI_ge (by omega) (by omega)
      have ei : (nI i).toNatClampNeg = i := nI_clamp (by omega)
      have hl2 : MLk wc am := fun y hy => by
        have e := (by decide : ∀ y ∈ mn_tab, y.1 = 0 ∧ y.2.1 ≠ 42) y hy
        have e9 := hM.2.1 y hy
        rw [e.1] at e9 ⊢
        exact (hA _ e.2).trans e9
      refine cm_M_read_48 (d := d + 322) (b1 := sa1) hc hl2 m1 t1 (by have := b1.1; omega) (fun q9 => absurd q9 cc) (fun _ => h42) (fun _ => vp_in_nI (by omega) (by omega)) (fun _ => vp_in_nI (by omega) (by omega)) (fun _ => ?_)
      rw [ei, nI_1]
      refine ih (i + 1) _ wc sa1 (by omega) ⟨hc.1, fun j hj => hc.2 j hj⟩ (fun x h1 h2 h3 => (f x h1 h2 h3).trans (SameC.rowI h3)) t1 m1 b1 l1 o1 nx1 pn ps ln (fun i9 h9 => ?_) hA h42 heA heI h41 h43 h55 h60 h61
      show va_up τ.eI sa1 (va_up (τ.eI sa1) i (vp_nar .byte (wc.eI 2 i))) sa1 i9 = _
      rw [hp_up_same]
      by_cases e : i9 = i
      · rw [e, hp_up_same, heI, n2]
        exact (isBT i).symm
      · rw [hp_up_ne _ _ e]; exact d1 i9 (by omega)
  -- a longer row is made, where it is too short
  have grow : ∀ (g : Nat) (τ : Hp) (wc : Wd) (sa1 : Nat), 2000 ≤ g + τ.len sa1 → CM z τ am → (∀ x, x < σ.nx → mx am x → SameC σ τ x) → τ.tag sa1 = 21 → mx am sa1 → (bc ≤ sa1 ∧ sa1 < τ.nx) → (64 ≤ τ.len sa1 ∧ τ.len sa1 ≤ 2000) → (sa1 = sa ∨ σ.nx ≤ sa1) → σ.nx ≤ τ.nx → τ.nx + σ.len sa ≤ σ.nx + τ.len sa1 → τ.sl + 2 * σ.len sa ≤ σ.sl + 2 * τ.len sa1 →
      (∀ f, f ≠ 42 → wc.A 0 f = w.A 0 f) → wc.A 0 42 = some sa1 → wc.eA = w.eA → wc.eI = w.eI → wc.I 0 41 = w.I 0 41 → wc.I 0 43 = nI a.n → wc.I 0 55 = 0 → wc.I 0 60 = -1 → wc.I 0 61 = w.I 0 61 → Go z l mt_M_read (d + 331) 18 [.ref (am 0), .retAddr 0, .retAddr 0] [] (ov τ am 7 wc) Q := by
    intro g
    induction g with
    | zero =>
      intro τ wc sa1 hg hc f t1 m1 b1 l1 o1 nx1 pn ps hA h42 heA heI h41 h43 h55 h60 h61
      have cc : wc.I 0 43 ≤ nI (τ.len sa1) := by rw [h43]; exact nI_le (by omega) (by omega)
      exact cm_M_read_18 (d := d + 322) (b1 := sa1) hc t1 h42 (fun _ => cpy a.n 0 τ wc sa1 (Nat.zero_add _) hc (fun x h1 h2 _ => f x h1 h2) t1 m1 b1 l1 o1 nx1 pn ps (by omega) (fun i9 h9 => absurd h9 (Nat.not_lt_zero _)) hA h42 heA heI h41 h43 h55 h60 h61) (fun q9 => absurd cc q9) (fun q9 => absurd cc q9) (fun q9 => absurd cc q9)
    | succ g ih =>
      intro τ wc sa1 hg hc f t1 m1 b1 l1 o1 nx1 pn ps hA h42 heA heI h41 h43 h55 h60 h61
      have e2 : 2 * nI (τ.len sa1) = nI (2 * τ.len sa1) := (Int32.ofNat_mul 2 (τ.len sa1)).symm
      have e3 : (2 * nI (τ.len sa1)).toNatClampNeg = 2 * τ.len sa1 := by rw [e2]; exact nI_clamp (by omega)
      refine go_wf fun hw1 => cm_M_read_18 (d := d + 322) (b1 := sa1) hc t1 h42 (fun e => ?_) (fun _ => by rw [e2]; exact nI_pos (by omega)) (fun _ => by rw [e3]; omega) (fun e => ?_)
      · rw [h43] at e
        have e9 := (nI_leI (by omega) (by omega)).mp e
        exact cpy a.n 0 τ wc sa1 (Nat.zero_add _) hc (fun x h1 h2 _ => f x h1 h2) t1 m1 b1 l1 o1 nx1 pn ps e9 (fun i9 h9 => absurd h9 (Nat.not_lt_zero _)) hA h42 heA heI h41 h43 h55 h60 h61
      · rw [h43] at e
        have e9 : ¬ a.n ≤ τ.len sa1 := fun r => e ((nI_leI (by omega) (by omega)).mpr r)
        rw [e3]
        have hc' := hc.wA hw1 21 (2 * τ.len sa1)
        have ln : (τ.newA 21 (2 * τ.len sa1)).len τ.nx = 2 * τ.len sa1 := hp_up_same _ _ _
        have nx9 : (τ.newA 21 (2 * τ.len sa1)).nx = τ.nx + 1 := rfl
        have sl9 : (τ.newA 21 (2 * τ.len sa1)).sl = τ.sl + 2 * τ.len sa1 := rfl
        refine ih _ (wc.setA 0 42 (some τ.nx)) τ.nx (by rw [ln]; omega) hc' (fun x h1 h2 => (f x h1 h2).trans (SameC.newA (by omega))) (hp_up_same _ _ _) (hc.nxO hw1) ⟨by omega, by rw [nx9]; omega⟩ (by rw [ln]; omega) (Or.inr nx1) (by rw [nx9]; omega) (by rw [ln, nx9]; omega) (by rw [ln, sl9]; omega) (fun f9 h9 => ?_) rfl heA heI h41 h43 h55 h60 h61
        show up22 wc.A 0 42 _ 0 f9 = _
        rw [up22_eq, if_neg (fun r => h9 r.2)]
        exact hA f9 h9
  exact cm_M_read (d := d + 322) hM.1 (grow 2000 σ _ sa (by omega) hM.1 (fun x _ _ => SameC.rfl' σ x) s2 s3 s4 s5 (Or.inl rfl) (Nat.le_refl _) (Nat.le_refl _) (Nat.le_refl _) (fun _ _ => rfl) s1 rfl rfl rfl n1 rfl rfl rfl)
end MRead
