/-! ===== the reference's calls: kind, work ===== -/
section MKind
variable {z : State} {l : Launch} {d : Nat} {σ : Hp} {am : Nat → Nat} {w : Wd} {a : Ab} {bc ou c s : Nat} {Q : Outcome → Hp → Prop} {m : Ex}
theorem PoolOK.mvx {σ' : Hp} {q : Po} (h : PoolOK z σ am w q) (s0 : SameX σ σ' q.pa) (s1 : ∀ i, i < q.hw → SameX σ σ' (q.pv i) ∧ SameX σ σ' (q.pt i)) : PoolOK z σ' am w q := by
  obtain ⟨p1, p2, p3, p4, p5, p6, p7, p8, p9, p10, p11, p12, p13, p14⟩ := h
  refine ⟨p1, s0.1.trans p2, p3, p4, s0.2.1.trans p5, p6, p7, p8, p9, p10, p11, fun i hi => ?_, fun i h1 h2 => by rw [s0.2.2.2.2.2]; exact p13 i h1 h2, p14⟩
  obtain ⟨e1, v1, v2, v3, v4, v5, v6, v7⟩ := p12 i hi
  obtain ⟨a1, a2⟩ := s1 i hi
  exact ⟨by rw [s0.2.2.2.2.2]; exact e1, a1.1.trans v1, (a1.2.2.1 73).2.2.trans v2, a2.1.trans v3, v4, a2.2.1.trans v5, v6, v7⟩
/-- X is checked -/
theorem MI.ck (h : MI z σ am w a bc ou c s) (hX : a.X = some m) : ∃ n lo nlo nhi, w.A 0 58 = some n ∧ RNK m lo nlo nhi 0 0 σ am n 420 ∧ z.heap.size ≤ nlo ∧ (bc ≤ nlo ∧ ou < nlo) ∧ ∀ σ', Ck nlo nhi 0 0 σ σ' → MI z σ' am w a bc ou c s := by
  obtain ⟨b0, vs, ts, S, q, sa, hM, hO, ⟨⟨v1, v2⟩, v3, v4, v5, v6⟩, ⟨s1, s2, s3, s4, s5, s6⟩, ⟨p1, p2, p3⟩, hR, hN, hP⟩ := h
  rw [hX] at hR
  obtain ⟨n, lo, nlo, nhi, h9, kv, r1, r2, r3, r4, r5, r6, r7, r8, r9⟩ := hR
  have b9 : bc ≤ b0 := by have := hM.2.2.2.2.1 0 (by decide); omega
  have nb : b0 ≤ nlo := by have := r2.1; omega
  have hz := hM.2.2.2.1
  refine ⟨n, lo, nlo, nhi, r1, r2.2.2.2.2.2.1.mono r5, by omega, by omega, fun σ' C => ?_⟩
  have sx := fun x => C.sx x
  have sc : ∀ x, x < b0 → SameC σ σ' x := fun x hx => C.sc (Or.inl (by omega))
  have hn : σ'.nx = σ.nx := C.2.2.2.2.2.2.2.1
  have hs : σ'.sl = σ.sl := C.2.2.2.2.2.2.2.2.1
  have hle : b0 ≤ σ.nx := hM.2.2.2.2.2.1
  refine ⟨b0, vs, ts, S, q, sa, hM.mv (hM.1.ck C) (fun x _ _ hx => sc x (by omega)) (by omega), ⟨(sc ou hO.2.2).1.trans hO.1, hO.2⟩, ⟨⟨fun i hi => ?_, v2⟩, v3, v4, v5, v6⟩, ⟨s1, (sx sa).1.trans s2, s3, by omega, by rw [(sx sa).2.1]; exact s5, s6⟩, ⟨p1.mvx (sx _) (fun i _ => ⟨sx _, sx _⟩), by omega, fun i hi => by rw [hn]; exact p3 i hi⟩, ?_, hN, by unfold MP; rw [hn, hs, (sx sa).2.1]; exact hP⟩
  · obtain ⟨a1, a2, a3, a4⟩ := v1 i hi
    have f1 := sc (vs i) a3.2
    refine ⟨a1.mv f1 (fun t ht => ?_), (f1.2.2.1 73).2.2.trans a2, a3, a4⟩
    obtain rfl : ts i = t := Option.some.inj (a2.symm.trans ht)
    exact sc _ a4.2
  · rw [hX]
    exact ⟨n, lo, nlo, nhi, h9, kv, r1, r2.mv C.ag, r3, by omega, r5, r6, r7, r8, r9⟩
theorem MI.km (h : MI z σ am w a bc ou c s) (ha : a.ok) : KM z σ am w a.kn := by
  obtain ⟨v, t, V, -⟩ := h.up (i := 0) (by decide)
  obtain ⟨n1, n2, n3, n4, n5⟩ := h.num
  obtain ⟨b0, vs, ts, S, q, sa, hM, -⟩ := h
  exact ⟨hM.1, hM.2.1, hM.2.2.1, ⟨v, V.1⟩, fun r hr => ⟨n3 r hr, by rcases (ha.2.1 r hr).1 with e | e | e <;> rw [e] <;> decide⟩⟩
theorem wr_split_kind : tableOf mt_M_kind.hh = [] ++ (⟨22, 62, 63, 8⟩ : ExceptionTableEntry) :: [] := rfl
theorem wr_split_work : tableOf mt_M_work.hh = [] ++ (⟨27, 51, 54, 8⟩ : ExceptionTableEntry) :: [] := rfl
theorem wr_split_read : tableOf mt_M_read.hh = [] ++ (⟨89, 114, 117, 8⟩ : ExceptionTableEntry) :: [] := rfl
theorem MI.err (h : MI z σ am w a bc ou c s) (e : Int32) (hw : w.I 1 79 = e) : MI z σ am ((w.setI 0 61 (w.I 1 79)).setI 0 62 2) (a.err e) bc ou c s := by
  obtain ⟨n1, n2, n3, n4, n5⟩ := h.num
  exact h.wd rfl rfl rfl rfl rfl rfl ⟨n1, n2, n3, n4, hw⟩ (Nat.le_refl _) (Nat.le_refl _)
theorem MI.wrong (h : MI z σ am w a bc ou c s) (e : Int32) : MI z σ am (w.setI 1 79 e) a bc ou c s := h.wd rfl rfl rfl rfl rfl rfl (show MN w a from h.num) (Nat.le_refl _) (Nat.le_refl _)
theorem ma_kind (h : MI z σ am w a bc ou c s) (ha : a.ok) (k : MQr z am bc ou σ (sp_kind a).2.2 c s (sp_kind a).1 Q (some (.int (sp_kind a).2.1))) : Go z l mt_M_kind (d + 441) 0 [.ref (am 0), .retAddr 0] [] (ov σ am 7 w) Q := by
  unfold sp_kind at k
  cases hX : a.X with
  | none =>
    rw [hX] at k
    have r0 : w.A 0 58 = none := by
      obtain ⟨b0, vs, ts, S, q, sa, -, -, -, -, -, hR, -⟩ := h
      rw [hX] at hR
      exact hR
    exact cm_M_kind (d := d + 432) (b2 := 0) h.cm (fun b1 e => absurd (r0.symm.trans e) (by simp)) (fun b1 e => absurd (r0.symm.trans e) (by simp)) (fun _ => k.now (h.code 1) rfl rfl)
  | some m =>
    rw [hX] at k
    have h0 := h.code 0
    obtain ⟨n, lo, nlo, nhi, r1, rk, zn, bn, keep⟩ := h0.ck hX
    have r1' : w.A 0 58 = some n := r1
    refine cm_M_kind (d := d + 432) (b2 := n) h.cm (fun _ _ => r1') (fun _ _ => ?_) (fun e => absurd (r1'.symm.trans e) (by simp))
    refine go_eq (show d + 420 + 20 = d + 432 + 8 by omega) (rk z l d σ _ a.kn _ (h0.km ha) zn (Ag.rfl' _ _ _ _ _ _) (fun e0 q4 σ' C t => fun _ => gj_nextI ?_) (fun e0 σ' C => fun _ => gj_nextT ?_))
    · have h1 := keep σ' C
      have k' : MQr z am bc ou σ a c s 0 Q (some (.int (m.1 a.kn).2)) := by
        have k9 : MQr z am bc ou σ (if ¬ (m.1 a.kn).1 = 0 then ((2 : Nat), (0 : Int32), a.err (m.1 a.kn).1) else (0, (m.1 a.kn).2, a)).2.2 c s (if ¬ (m.1 a.kn).1 = 0 then ((2 : Nat), (0 : Int32), a.err (m.1 a.kn).1) else (0, (m.1 a.kn).2, a)).1 Q (some (.int (if ¬ (m.1 a.kn).1 = 0 then ((2 : Nat), (0 : Int32), a.err (m.1 a.kn).1) else (0, (m.1 a.kn).2, a)).2.1)) := k
        rw [show (if ¬ (m.1 a.kn).1 = 0 then ((2 : Nat), (0 : Int32), a.err (m.1 a.kn).1) else (0, (m.1 a.kn).2, a)) = (0, (m.1 a.kn).2, a) from if_neg (fun r => r e0)] at k9
        exact k9
      have fin : ∀ v : Int32, (m.1 a.kn).2 = v → Q (.returned (some (.int v))) (ov σ' am 7 (w.setI 0 62 0)) := fun v ev => by
        rw [ev] at k'
        exact k' σ' _ h1 (fun x hx => C.sc (Or.inl (by omega))) (by have : σ'.nx = σ.nx := C.2.2.2.2.2.2.2.1; omega) rfl
      rcases q4 with e | e | e | e
      · rw [e]
        exact cm_M_kind_30 (d := d + 432) h1.cm (fun q => absurd (show mty 0 = 20 by decide) q) (fun q => absurd (show mty 0 = 20 by decide) q) (fun q => absurd (show mty 0 = 20 by decide) q) (fun _ => fin 0 e)
      · rw [e]
        exact cm_M_kind_30 (d := d + 432) h1.cm (fun _ q => absurd (show mty 1 = 25 by decide) q) (fun _ q => absurd (show mty 1 = 25 by decide) q) (fun _ _ => fin 1 e) (fun q => absurd q (by decide))
      · rw [e]
        exact cm_M_kind_30 (d := d + 432) h1.cm (fun _ _ q => absurd (show mty 2 = 16 by decide) q) (fun _ _ _ => fin 2 e) (fun _ q => absurd q (by decide)) (fun q => absurd q (by decide))
      · rw [e]
        exact cm_M_kind_30 (d := d + 432) h1.cm (fun _ _ _ => fin 3 e) (fun _ _ q => absurd q (by decide)) (fun _ q => absurd q (by decide)) (fun q => absurd q (by decide))
    · have h1 := (keep σ' C).wrong (m.1 a.kn).1
      have k' : MQr z am bc ou σ (a.err (m.1 a.kn).1) c s 2 Q (some (.int 0)) := by
        have k9 : MQr z am bc ou σ (if ¬ (m.1 a.kn).1 = 0 then ((2 : Nat), (0 : Int32), a.err (m.1 a.kn).1) else (0, (m.1 a.kn).2, a)).2.2 c s (if ¬ (m.1 a.kn).1 = 0 then ((2 : Nat), (0 : Int32), a.err (m.1 a.kn).1) else (0, (m.1 a.kn).2, a)).1 Q (some (.int (if ¬ (m.1 a.kn).1 = 0 then ((2 : Nat), (0 : Int32), a.err (m.1 a.kn).1) else (0, (m.1 a.kn).2, a)).2.1)) := k
        rw [show (if ¬ (m.1 a.kn).1 = 0 then ((2 : Nat), (0 : Int32), a.err (m.1 a.kn).1) else (0, (m.1 a.kn).2, a)) = (2, 0, a.err (m.1 a.kn).1) from if_pos e0] at k9
        exact k9
      refine go_catch (t := 11) [] ⟨22, 62, 63, 8⟩ [] wr_split_kind (fun y hy => absurd hy List.not_mem_nil) rfl (by decide) mw_1071 ml_1073 (by decide) (h1.cm.tag (i := 1) (by decide) rfl) (h1.cm.2 1 (by decide)).2.2 ?_
      exact cm_M_kind_63 (d := d + 432) h1.cm (k' σ' _ (h1.err _ rfl) (fun x hx => C.sc (Or.inl (by omega))) (by have : σ'.nx = σ.nx := C.2.2.2.2.2.2.2.1; omega) rfl)
/-- X is worked out -/
theorem MI.ev (h : MI z σ am w a bc ou c s) (hX : a.X = some m) (ha : a.ok) : ∃ n lo nlo nhi q hd, w.A 0 58 = some n ∧ w.A 0 59 = some hd ∧ σ.tag hd = 10 ∧ RNE m lo nlo nhi 0 0 σ am n 420 2000 ∧ (EX_S m) ∧ q.k = 0 ∧ EM z σ am (w.setI 0 41 0) (rg a.R) q ∧ (∀ x, Dp lo nlo nhi 0 0 σ x → Fr σ am q x) ∧ (∀ x, x < bc ∨ x = ou → Fr σ am q x) ∧
    ∀ σ' w' q' kv, EM z σ' am w' (rg a.R) q' → EvF am σ q σ' q' kv → WE (w.setI 0 41 0) w' → (∀ x, σ'.tag x ≠ 0 → x < σ'.nx) → MI z σ' am w' a bc ou c s := by
  obtain ⟨b0, vs, ts, S, q, sa, hM, hO, ⟨⟨v1, v2⟩, v3, v4, v5, v6⟩, ⟨s1, s2, s3, s4, s5, s6⟩, ⟨p1, p2, p3⟩, hR, hN, hP⟩ := h
  rw [hX] at hR
  obtain ⟨n, lo, nlo, nhi, h9, kv, r1, r2, r3, r4, r5, r6, r7, r8, r9⟩ := hR
  have b9 : bc ≤ b0 := by have := hM.2.2.2.2.1 0 (by decide); omega
  have hle : b0 ≤ σ.nx := hM.2.2.2.2.2.1
  have hz := hM.2.2.2.1
  let q0 : Po := (q.pa, q.P, q.hw, 0, q.pv, q.pt)
  obtain ⟨w1, w2, w3, w4, w5, w6, w7, w8, w9, w10, w11, w12, w13, w14⟩ := id p1
  have hP0 : PoolOK z σ am (w.setI 0 41 0) q0 := ⟨w1, w2, w3, w4, w5, rfl, Nat.zero_le _, w8, w9, w10, w11, w12, w13, w14⟩
  have frlo : ∀ x, x < b0 → mx am x → x ≠ q.pa → Fr σ am q0 x := fun x hx hm hp => ⟨by omega, hm, hp, fun i _ hi => by
    have := p3 i hi
    show x ≠ q.pv i ∧ x ≠ q.pt i
    constructor <;> omega⟩
  have frv : ∀ i, i < 9 → Fr σ am q0 (vs i) ∧ Fr σ am q0 (ts i) := fun i hi => by
    obtain ⟨a1, a2, a3, a4⟩ := v1 i hi
    obtain ⟨g1, g2, g3⟩ := a1.txt a2
    refine ⟨frlo _ a3.2 (hM.1.out a1.1 rfl) (fun e => ?_), frlo _ a4.2 g2 (fun e => ?_)⟩
    · rw [← e, a1.1] at w2; exact absurd w2 (by decide)
    · rw [← e, g1] at w2; exact absurd w2 (by decide)
  have frs : Fr σ am q0 sa := ⟨s4.2, s3, fun e => by rw [← show sa = q.pa from e, s2] at w2; exact absurd w2 (by decide), fun i _ hi => ⟨fun e => by
    have := (w12 i hi).2.1
    rw [← show sa = q.pv i from e, s2] at this
    exact absurd this (by decide), fun e => (p3 i hi).2.2 e.symm⟩⟩
  have frn : ∀ x, lo ≤ x → x < nhi → Fr σ am q0 x := fun x h1 h2 => ⟨by omega, hM.hi (by omega), fun e => r7 (by rw [← show x = q.pa from e]; exact ⟨h1, h2⟩), fun i _ hi => ⟨fun e => (r9 i hi).1 (by rw [← show x = q.pv i from e]; exact ⟨h1, h2⟩), fun e => (r9 i hi).2 (by rw [← show x = q.pt i from e]; exact ⟨h1, h2⟩)⟩⟩
  have dpf : ∀ x, Dp lo nlo nhi 0 0 σ x → lo ≤ x ∧ x < nhi := fun x hx => by
    rcases hx with q9 | q9
    · exact ⟨by have := q9.1; have := r2.1; omega, q9.2.1⟩
    · exact ⟨q9.1, q9.2.1⟩
  have fro : Fr σ am q0 ou := frlo ou hO.2.2 (hM.1.out hO.1 rfl) (fun e => by rw [← e, hO.1] at w2; exact absurd w2 (by decide))
  have hE : EM z σ am (w.setI 0 41 0) (rg a.R) q0 := ⟨hM.1, hM.2.1, hM.2.2.1, hP0, fun r hr => ⟨vs r, v3 r hr, by
    obtain ⟨a1, a2, a3, a4⟩ := v1 r (by omega)
    have e : rg a.R r = S r := by rw [rg, if_pos hr]; exact (v5 r hr).symm
    rw [e]
    refine ⟨a1, (frv r (by omega)).1, fun t ht => ?_⟩
    obtain rfl : ts r = t := Option.some.inj (a2.symm.trans ht)
    exact (frv r (by omega)).2⟩, by omega⟩
  refine ⟨n, lo, nlo, nhi, q0, vs 8, r1, v4, (v1 8 (by decide)).1.1, r2.2.2.2.2.2.2.1.mono r5 r6, r2.2.2.2.2.1.1, rfl, hE, fun x hx => frn x (dpf x hx).1 (dpf x hx).2, fun x hx => ?_, fun σ' w' q' kv' E' F' W' lt => ?_⟩
  · rcases hx with hx | hx
    · exact frlo x (by omega) (fun i hi e => by have := (hM.2.2.2.2.1 i hi).1; omega) (fun e => by have := p2.1; omega)
    · rw [hx]; exact fro
  obtain ⟨f1, f2, f3, f4, f5, f6, f7, f8, f9, f10⟩ := F'
  have e1 : q0.hw = q.hw := rfl
  have e2 : q0.P = q.P := rfl
  rw [e1, e2] at f4 f5
  obtain ⟨u1, u2, u3, u4, u5, u6, u7, u8, u9, u10, u11, u12, u13, u14⟩ := id E'.2.2.2.1
  have fs := (f1 sa frs).2
  have pvo : ∀ i, i < q'.hw → (i < q.hw ∧ q'.pv i = q.pv i ∧ q'.pt i = q.pt i) ∨ (σ.nx ≤ q'.pv i ∧ σ.nx ≤ q'.pt i) := f10
  have hA : ∀ f, f ≠ 40 → w'.A 0 f = w.A 0 f := fun f hf => W'.2.2.1 0 f (fun r => hf r.2)
  refine ⟨b0, vs, ts, S, q', sa, ⟨E'.1, E'.2.1, E'.2.2.1, hz, hM.2.2.2.2.1, by omega, fun k hk => by rw [W'.2.2.2.2.2]; exact hM.2.2.2.2.2.2 k hk⟩, ⟨(f1 ou fro).2.1.trans hO.1, hO.2⟩, ⟨⟨fun i hi => ?_, v2⟩, fun r hr => by rw [W'.2.2.2.2.2]; exact v3 r hr, (hA 59 (by decide)).trans v4, v5, v6⟩, ⟨(hA 42 (by decide)).trans s1, fs.1.trans s2, s3, by omega, by rw [fs.2.1]; exact s5, s6⟩, ⟨E'.2.2.2.1, ⟨?_, lt _ (by rw [u2]; decide)⟩, fun i hi => ?_⟩, ?_, ?_, ?_⟩
  · obtain ⟨a1, a2, a3, a4⟩ := v1 i hi
    have g1 := (f1 _ (frv i hi).1).2
    refine ⟨a1.mv g1 (fun t ht => ?_), (g1.2.2.1 73).2.2.trans a2, a3, a4⟩
    obtain rfl : ts i = t := Option.some.inj (a2.symm.trans ht)
    exact (f1 _ (frv i hi).2).2
  · rcases f9 with e | e
    · rw [e]; exact p2.1
    · omega
  · have a1 := lt (q'.pv i) (by rw [(u12 i hi).2.1]; decide)
    have a2 := lt (q'.pt i) (by rw [(u12 i hi).2.2.2.1]; decide)
    rcases pvo i hi with ⟨h1, h2, h3⟩ | ⟨h1, h2⟩
    · have := p3 i h1
      rw [h2] at a1
      rw [h3] at a2
      rw [h2, h3]
      exact ⟨⟨this.1.1, a1⟩, ⟨this.2.1.1, a2⟩, this.2.2⟩
    · exact ⟨⟨by omega, a1⟩, ⟨by omega, a2⟩, by omega⟩
  · rw [hX]
    refine ⟨n, lo, nlo, nhi, h9, kv, (hA 58 (by decide)).trans r1, r2.mv (fun x hx => ((f1 x (frn x (dpf x hx).1 (dpf x hx).2)).2).sx), r3, by omega, r5, r6, ?_, r8, fun i hi => ?_⟩
    · rcases f9 with e | e
      · rw [e]; exact r7
      · omega
    · rcases pvo i hi with ⟨h1, h2, h3⟩ | ⟨h1, h2⟩
      · rw [h2, h3]; exact r9 i h1
      · omega
  · obtain ⟨n1, n2, n3, n4, n5⟩ := hN
    have hI : ∀ f, f ≠ 41 → w'.I 0 f = (w.setI 0 41 0).I 0 f := fun f hf => W'.1 0 f (fun r => hf r.2)
    exact ⟨(hI 55 (by decide)).trans n1, (W'.2.2.2.1 2 (by decide)).trans n2, fun r hr => by rw [W'.2.2.2.1 4 (by decide)]; exact n3 r hr, (hI 60 (by decide)).trans n4, (hI 61 (by decide)).trans n5⟩
  · obtain ⟨t1, t2⟩ := hP
    refine ⟨?_, ?_⟩
    · rw [fs.2.1]; omega
    · rw [fs.2.1]; omega
theorem MI.k0 (h : MI z σ am w a bc ou c s) : MI z σ am (w.setI 0 41 0) a bc ou c s := by
  obtain ⟨b0, vs, ts, S, q, sa, hM, hO, hV, hS, ⟨p1, p2, p3⟩, hR, hN, hP⟩ := h
  obtain ⟨w1, w2, w3, w4, w5, w6, w7, w8, w9, w10, w11, w12, w13, w14⟩ := id p1
  refine ⟨b0, vs, ts, S, (q.pa, q.P, q.hw, 0, q.pv, q.pt), sa, hM, hO, hV, hS, ⟨⟨w1, w2, w3, w4, w5, rfl, Nat.zero_le _, w8, w9, w10, w11, w12, w13, w14⟩, p2, p3⟩, ?_, hN, hP⟩
  cases hX : a.X with
  | none => rw [hX] at hR; exact hR
  | some m => rw [hX] at hR; exact hR
theorem rg_ok_ab (ha : a.ok) : rg_ok a.kn (rg a.R) := fun r hr => by
  rw [rg, if_pos hr]
  exact ⟨(ha.2.1 r hr).2, by rcases (ha.2.1 r hr).1 with e | e | e <;> rw [e] <;> decide⟩
theorem ma_work (h : MI z σ am w a bc ou c s) (ha : a.ok) (k : MQr z am bc ou σ (sp_work a).2.2 c s (sp_work a).1 Q (some (.int (sp_work a).2.1))) : Go z l mt_M_work (d + 861) 0 [.ref (am 0), .retAddr 0] [] (ov σ am 7 w) Q := by
  unfold sp_work at k
  cases hX : a.X with
  | none =>
    rw [hX] at k
    have r0 : w.A 0 58 = none := by
      obtain ⟨b0, vs, ts, S, q, sa, -, -, -, -, -, hR, -⟩ := h
      rw [hX] at hR
      exact hR
    exact cm_M_work (d := d + 852) (b2 := 0) h.cm (fun b1 e => absurd (r0.symm.trans e) (by simp)) (fun b1 e => absurd (r0.symm.trans e) (by simp)) (fun _ => k.now (h.code 1) rfl rfl)
  | some m =>
    rw [hX] at k
    have k' : MQr z am bc ou σ (if ¬ (m.1 a.kn).1 = 0 then ((2 : Nat), (0 : Int32), a.err (m.1 a.kn).1) else if ¬ (m.2.1 (rg a.R)).1 = 0 then (2, 0, a.err (m.2.1 (rg a.R)).1) else (0, if (m.2.1 (rg a.R)).2.1 = 3 then 0 else 1, a.held (m.2.1 (rg a.R)).2)).2.2 c s (if ¬ (m.1 a.kn).1 = 0 then ((2 : Nat), (0 : Int32), a.err (m.1 a.kn).1) else if ¬ (m.2.1 (rg a.R)).1 = 0 then (2, 0, a.err (m.2.1 (rg a.R)).1) else (0, if (m.2.1 (rg a.R)).2.1 = 3 then 0 else 1, a.held (m.2.1 (rg a.R)).2)).1 Q (some (.int (if ¬ (m.1 a.kn).1 = 0 then ((2 : Nat), (0 : Int32), a.err (m.1 a.kn).1) else if ¬ (m.2.1 (rg a.R)).1 = 0 then (2, 0, a.err (m.2.1 (rg a.R)).1) else (0, if (m.2.1 (rg a.R)).2.1 = 3 then 0 else 1, a.held (m.2.1 (rg a.R)).2)).2.1)) := k
    have h0 := (h.code 0).k0
    obtain ⟨n, lo, nlo, nhi, r1, rk, zn, bn, keep⟩ := h0.ck hX
    have r1' : w.A 0 58 = some n := r1
    refine cm_M_work (d := d + 852) (b2 := n) h.cm (fun _ _ => r1') (fun _ _ => ?_) (fun e => absurd (r1'.symm.trans e) (by simp))
    refine go_eq (show d + 420 + 420 + 20 = d + 852 + 8 by omega) (rk z l (d + 420) σ _ a.kn _ (h0.km ha) zn (Ag.rfl' _ _ _ _ _ _) (fun e0 q4 σ1 C t => fun _ => gj_nextI ?_) (fun e0 σ1 C => fun _ => gj_nextT ?_))
    · rw [if_neg (fun r => r e0)] at k'
      have h1 := keep σ1 C
      have n1x : σ1.nx = σ.nx := C.2.2.2.2.2.2.2.1
      have fr1 : ∀ x, x < bc ∨ x = ou → SameC σ σ1 x := fun x hx => C.sc (Or.inl (by omega))
      obtain ⟨n', lo', nlo', nhi', q, hd, r2, r59, thd, re, eS, qk, E1, dp, frb, fin⟩ := h1.ev hX ha
      rw [Wd.setI_setI] at E1 fin
      have en : n' = n := Option.some.inj (r2.symm.trans r1)
      subst en
      refine cm_M_work_35 (d := d + 852) (b1 := hd) (b3 := n') h1.cm r59 r2 ?_
      refine go_eq (show d + 2 * 420 + 20 = d + 852 + 8 by omega) (re z l d σ1 _ a.kn (rg a.R) q _ E1 (Ag.rfl' _ _ _ _ _ _) dp (rg_ok_ab ha) e0 (by omega) (fun e1 σ2 w2 q2 v E2 F2 W2 V2 => fun _ => gj_nextI ?_) (fun e1 σ2 w2 q2 E2 F2 W2 => fun _ => gj_nextT ?_))
      · rw [if_neg (fun r => r e1)] at k'
        have ty := eS a.kn (rg a.R) _ (rg_ok_ab ha) (show m.1 a.kn = (0, (m.1 a.kn).2) from Prod.ext e0 rfl) e1
        refine go_wf fun hwf => ?_
        have h2 := fin σ2 w2 q2 _ E2 F2 W2 (fun x hx => hwf.lt (show (ov σ2 am 7 w2).tag x ≠ 0 from hx))
        have n2x : σ1.nx ≤ σ2.nx := F2.2.2.2.2.2.2.2.1
        have fr2 : ∀ x, x < bc ∨ x = ou → SameC σ σ2 x := fun x hx => (fr1 x hx).trans (F2.1 x (frb x hx)).2
        obtain ⟨hv, ht, HV, hHT, hv1, ht1, -, h59, up⟩ := h2.up (i := 8) (by decide)
        have ehd : hv = hd := by
          have e9 : w2.A 0 59 = some hd := (W2.2.2.1 0 59 (by decide)).trans r59
          exact Option.some.inj ((h59 rfl).symm.trans e9)
        subst ehd
        obtain ⟨g1, g2, g3⟩ := HV.txt hHT
        obtain ⟨r, hr⟩ : ∃ r, σ2.A 73 v = some r := by
          obtain ⟨-, -, -, m9, -, -, r, hr, -⟩ := V2.1
          exact ⟨r, hr⟩
        refine cm_M_work_48 (d := d + 852) h2.cm HV.1 (go_eq (show d + 851 + 9 = d + 852 + 8 by omega) (mo_take (d := d + 851) h2.cm HV.1 hHT g1 g2 g3 hv1.2 ht1.2 V2.1 hr ty.1 (fun σ3 c3 f3 e3 e4 V3 hT3 _ => gj_nextV ?_)))
        obtain ⟨m1, m2, m3, m4, m5⟩ := h2.num
        have h3 : MI z σ3 am w2 (a.held (m.2.1 (rg a.R)).2) bc ou c s := up σ3 w2 (a.held (m.2.1 (rg a.R)).2) (m.2.1 (rg a.R)).2 c s c3 f3 e3 e4 V3 hT3 rfl rfl rfl (fun r hr => (if_neg (by omega)).symm) rfl rfl ⟨m1, m2, m3, m4, m5⟩ (Nat.le_refl _) (Nat.le_refl _)
        have cd : w2.I 0 62 = 0 := W2.1 0 62 (by decide)
        have t0 : σ3.I 70 hv = 0 ↔ (m.2.1 (rg a.R)).2.1 = 3 := by rw [V3.2.1]; exact mty_0 ty.1.k4
        have fr3 : ∀ x, x < bc ∨ x = ou → SameC σ σ3 x := fun x hx => (fr2 x hx).trans (f3 x (by omega) (by omega))
        refine cm_M_work_51 (d := d + 852) (b1 := hv) c3 V3.1 (h59 rfl) (fun e => ?_) (fun e => ?_)
        · rw [if_neg (fun r => e (t0.mpr r))] at k'
          exact k' σ3 w2 h3 fr3 (by omega) cd
        · rw [if_pos (t0.mp e)] at k'
          exact k' σ3 w2 h3 fr3 (by omega) cd
      · rw [if_pos e1] at k'
        refine go_catch (t := 11) [] ⟨27, 51, 54, 8⟩ [] wr_split_work (fun y hy => absurd hy List.not_mem_nil) rfl (by decide) mw_1071 ml_1073 (by decide) (E2.1.tag (i := 1) (by decide) rfl) (E2.1.2 1 (by decide)).2.2 (go_wf fun hwf => ?_)
        have h2 := (fin σ2 w2 q2 _ E2 F2 W2 (fun x hx => hwf.lt (show (ov σ2 am 7 (w2.setI 1 79 (m.2.1 (rg a.R)).1)).tag x ≠ 0 from hx))).wrong (m.2.1 (rg a.R)).1
        have n2x : σ1.nx ≤ σ2.nx := F2.2.2.2.2.2.2.2.1
        exact cm_M_work_54 (d := d + 852) h2.cm (k' σ2 _ (h2.err _ rfl) (fun x hx => (fr1 x hx).trans (F2.1 x (frb x hx)).2) (by omega) rfl)
    · have h1 := (keep σ1 C).wrong (m.1 a.kn).1
      rw [if_pos e0] at k'
      refine go_catch (t := 11) [] ⟨27, 51, 54, 8⟩ [] wr_split_work (fun y hy => absurd hy List.not_mem_nil) rfl (by decide) mw_1071 ml_1073 (by decide) (h1.cm.tag (i := 1) (by decide) rfl) (h1.cm.2 1 (by decide)).2.2 ?_
      exact cm_M_work_54 (d := d + 852) h1.cm (k' σ1 _ (h1.err _ rfl) (fun x hx => C.sc (Or.inl (by omega))) (by have : σ1.nx = σ.nx := C.2.2.2.2.2.2.2.1; omega) rfl)
end MKind
