/-! ===== the library's builders beside the reference's world; the reference's word ===== -/
section MBuild
variable {z : State} {l : Launch} {d : Nat} {σ : Hp} {am : Nat → Nat} {w : Wd} {Q : Outcome → Hp → Prop}
theorem q_re {o : Outcome} {H H' : Hp} (e : H = H') (k : Q o H') : Q o H := e ▸ k
theorem mo_binit (hc : CM z σ am) (hz : z.heap.size ≤ σ.nx) {w0 : Wd} (hw : hp_wf (ov σ am 7 w0)) (k : ∀ σ', CM z σ' am → Fm am (fun _ => False) σ σ' → Bld σ' σ.nx (σ.nx + 1) [] 16 → σ'.nx = σ.nx + 2 → σ'.sl = σ.sl + 20 → Q (.returned none) (ov σ' am 7 w)) : Go z l mt_JStringBuilder_init (d + 9) 0 [.ref σ.nx] [] (ov (σ.newO 13 4) am 7 w) Q := by
  refine go_wf fun hw1 => ?_
  have hx : mx am σ.nx := hc.nxO hw
  have hc1 : CM z (σ.newO 13 4) am := hc.wO hw 13 4
  have b0 : (ov (σ.newO 13 4) am 7 w).I 88 σ.nx = 0 := by
    have h9 := ((hw.1 σ.nx (Nat.le_refl _)).2.2.1 88).1
    rw [nn_I hx] at h9
    exact (nn_I hx).trans h9
  refine bd_init (d := d) (σ := ov (σ.newO 13 4) am 7 w) (hp_up_same _ _ _) hz b0 (fun σ' f B n s => ?_)
  obtain ⟨eH, hc', fm⟩ := mo_re hc1 hw1 f (fun i hi e => hx i hi e.symm)
  refine q_re eH (k σ' hc' ?_ B n s)
  have g : Fm am (fun _ => False) σ (σ.newO 13 4) := ⟨Nat.le_succ _, Nat.le_add_right _ _, fun a ha _ _ => SameC.newO ha⟩
  exact g.trans fm (fun _ _ q => q) (fun a ha e => absurd e (by omega))
theorem mo_bapp {b r cap j : Nat} {cs : List Int32} (hc : CM z σ am) (hB : Bld σ b r cs cap) (hr : mx am r) (hz : z.heap.size ≤ b) (hzr : z.heap.size ≤ r) (hl : cs.length ≤ 1002) (hcap : cap ≤ 10000) (hj : j ≤ 127)
    (k : ∀ σ' r' cap', CM z σ' am → Fm am (fun a => a = b ∨ a = r) σ σ' → Bld σ' b r' (cs ++ [nI j]) cap' → mx am r' → z.heap.size ≤ r' → (r' = r ∨ σ.nx ≤ r') → σ'.nx ≤ σ.nx + 1 → cap ≤ cap' → σ'.sl + 2 * cap ≤ σ.sl + 2 * cap' → (cap' ≤ cap ∨ cap' ≤ 2 * cs.length + 2) → Q (.returned (some (.ref b))) (ov σ' am 7 w)) :
    Go z l mt_JStringBuilder_append_0 (d + 12) 0 [.ref b, .int (nI j)] [] (ov σ am 7 w) Q := by
  refine go_wf fun hw => ?_
  have hb := hc.out hB.1 rfl
  refine bd_app (d := d) (hB.ov hc hr) hz hzr hl hcap hj (fun σ' r' cap' f B z1 o n c s m => ?_)
  obtain ⟨eH, hc', fm⟩ := mo_re hc hw f (fun i hi e => e.elim (fun e => hb i hi e.symm) (fun e => hr i hi e.symm))
  refine q_re eH (k σ' r' cap' hc' fm B (o.elim (fun e => e ▸ hr) (fun e i hi q => ?_)) z1 o n c s m)
  have e2 : σ.nx ≤ r' := e
  have := hc.lt hw i hi
  omega
theorem mo_bapps {b r cap a : Nat} {cs xs : List Int32} (hc : CM z σ am) (hB : Bld σ b r cs cap) (hr : mx am r) (hS : StrM σ am a xs) (hz : z.heap.size ≤ b) (hzr : z.heap.size ≤ r) (hl : cs.length + xs.length ≤ 1002) (hcap : cap ≤ 10000) (hsep : ∀ q, σ.A 81 a = some q → q ≠ r)
    (k : ∀ σ' r' cap', CM z σ' am → Fm am (fun a => a = b ∨ a = r) σ σ' → Bld σ' b r' (cs ++ xs) cap' → mx am r' → z.heap.size ≤ r' → (r' = r ∨ σ.nx ≤ r') → σ'.nx ≤ σ.nx + 1 → (cap' ≤ cap ∨ cap' ≤ 2 * (cs.length + xs.length) + 2) → σ'.sl ≤ σ.sl + 2 * (cs.length + xs.length) + 2 → Q (.returned (some (.ref b))) (ov σ' am 7 w)) :
    Go z l mt_JStringBuilder_append_2 (d + 12) 0 [.ref b, .ref a] [] (ov σ am 7 w) Q := by
  refine go_wf fun hw => ?_
  have hb := hc.out hB.1 rfl
  have ha := hc.out hS.1.1 rfl
  refine bd_apps (d := d) (hB.ov hc hr) (hS.ov hc) hz hzr hl hcap (fun q hq => hsep q ((nn_A ha).symm.trans hq)) (fun σ' r' cap' f B z1 o n c s => ?_)
  obtain ⟨eH, hc', fm⟩ := mo_re hc hw f (fun i hi e => e.elim (fun e => hb i hi e.symm) (fun e => hr i hi e.symm))
  refine q_re eH (k σ' r' cap' hc' fm B (o.elim (fun e => e ▸ hr) (fun e i hi q => ?_)) z1 o n c s)
  have e2 : σ.nx ≤ r' := e
  have := hc.lt hw i hi
  omega
theorem mo_bstr {b r cap : Nat} {cs : List Int32} (hc : CM z σ am) (hB : Bld σ b r cs cap) (hr : mx am r) (hzr : z.heap.size ≤ r) (hz : z.heap.size ≤ σ.nx) (hcap : cap ≤ 30000) (k : ∀ σ', CM z σ' am → Fm am (fun _ => False) σ σ' → StrM σ' am σ.nx cs → σ'.A 81 σ.nx = some (σ.nx + 1) → σ'.nx = σ.nx + 2 → σ'.sl = σ.sl + 4 + cs.length → Q (.returned (some (.ref σ.nx))) (ov σ' am 7 w)) : Go z l mt_JStringBuilder_toString (d + 12) 0 [.ref b] [] (ov σ am 7 w) Q := by
  refine go_wf fun hw => ?_
  refine bd_str (d := d) (hB.ov hc hr) hzr hz hcap (fun σ' f S A n s => ?_)
  obtain ⟨eH, hc', fm⟩ := mo_re hc hw f (fun i hi e => e)
  refine q_re eH (k σ' hc' fm ⟨S, fun q hq i hi e => ?_⟩ A n s)
  have e2 : σ'.A 81 σ.nx = some (σ.nx + 1) := A
  have e3 : q = σ.nx + 1 := Option.some.inj (hq.symm.trans e2)
  have := hc.lt hw i hi
  omega
end MBuild
theorem PM.fr {z : State} {σ σ' : Hp} {am : Nat → Nat} {w w' : Wd} {T : Nat → Int32} {L sa : Nat} (h : PM z σ am w T L sa) (hc : CM z σ' am) (f : Fm am (fun _ => False) σ σ') (hw : WS w w') : PM z σ' am w' T L sa := h.mv hc f (fun q => q) (fun _ q => q.elim) hw
theorem StrM.fm {σ σ' : Hp} {am : Nat → Nat} {ex : Nat → Prop} {a n : Nat} {cs : List Int32} (h : StrM σ am a cs) (f : Fm am ex σ σ') (hb : σ.A 81 a = some n) (ha : mx am a) (h1 : a < σ.nx) (h2 : n < σ.nx) (e1 : ¬ ex a) (e2 : ¬ ex n) : StrM σ' am a cs ∧ σ'.A 81 a = some n := by
  have fa := f.2.2 a h1 ha e1
  refine ⟨h.mv fa (fun b q => ?_), (fa.2.2.1 81).2.2.trans hb⟩
  have : b = n := Option.some.inj (q.symm.trans hb)
  subst this
  exact f.2.2 b h2 (h.2 b hb) e2
section MWord3
variable {z : State} {l : Launch} {d : Nat} {σ : Hp} {am : Nat → Nat} {w : Wd} {Q : Outcome → Hp → Prop} {T : Nat → Int32} {L sa s : Nat}
theorem mo_wordy (h : PM z σ am w T L sa) (hs : s < L) (hlet : sc_let (T s)) (h46 : w.I 0 46 = nI s)
    (k : ∀ σ' w' a, PM z σ' am w' T L sa → Fm am (fun _ => False) σ σ' → SS w w' → w'.I 0 45 = w.I 0 45 → w'.I 0 46 = nI (sc_word T L (L - s) s) → w'.A 0 47 = some a → StrM σ' am a (sc_lows T s (sc_word T L (L - s) s)) → (σ.nx ≤ a ∧ ∀ b, σ'.A 81 a = some b → σ.nx ≤ b) → (w'.I 0 44 = if sc_ofWord T s (sc_word T L (L - s) s) = 34 then 7 else if sc_ofWord T s (sc_word T L (L - s) s) = 15 then 2 else 1) → sc_ofWord T s (sc_word T L (L - s) s) < 16 ∨ sc_ofWord T s (sc_word T L (L - s) s) = 34 → s < sc_word T L (L - s) s → σ'.nx ≤ σ.nx + 12 * (sc_word T L (L - s) s - s) → σ'.sl ≤ σ.sl + 110 * (sc_word T L (L - s) s - s) → Q (.returned none) (ov σ' am 7 w')) :
    Go z l mt_M_wordy (d + 13) 0 [.ref (am 0), .retAddr 0, .retAddr 0] [] (ov σ am 7 w) Q := by
  refine go_wf fun hw => ?_
  have hL := h.2.2.2.2.2.1
  have hT := h.2.2.2.2.2.2.1
  have hzn : z.heap.size ≤ σ.nx := h.2.2.2.2.2.2.2.2.1
  have hsa : sa < σ.nx := h.2.2.2.1.2.2.1
  have ham := h.1.lt hw
  have hse : s < sc_word T L (L - s) s := by
    obtain ⟨n, hn⟩ : ∃ n, L - s = n + 1 := ⟨L - s - 1, by omega⟩
    rw [hn, sc_word, if_pos ⟨hs, Or.inl hlet⟩]
    have := (word_le (T := T) (L := L) n (s + 1)).1
    omega
  refine cm_M_wordy (d := d + 4) h.1 (mo_binit (d := d + 3) h.1 hzn hw (fun σ1 hc1 f1 B1 n1 s1 => ?_))
  intro _
  refine gj_nextV (cm_M_wordy_7 (d := d + 4) hc1 ?_)
  refine mo_wl (d := d) (σ := σ) (w := w) (s := s) ham hsa hzn (L - s) s σ1 w (σ.nx + 1) 16 _ (by omega) ⟨h.fr hc1 f1 (WS.rfl' _), f1, SS.rfl' w, rfl, h46, by rw [lows_self]; exact B1, Nat.le_refl _, Nat.le_succ _, ⟨Nat.le_refl _, by omega⟩, by omega, by omega, by omega, by omega⟩ (fun σ2 w2 r2 cap2 hI => ?_)
  generalize he : sc_word T L (L - s) s = e at hI k hse
  obtain ⟨P2, F2, S2, g45, g46, B2, hb, hr, ⟨his, hiL⟩, n2, s2, c2, c2'⟩ := hI
  have F2n := F2.1
  have mr2 : mx am r2 := fun j hj q => by have := ham j hj; omega
  have ln : (sc_lows T s e).length = e - s := lows_len _ _
  refine mo_bstr (d := d) P2.1 B2 mr2 (by omega) (by omega) (by omega) (fun σ3 hc3 f3 St3 A3 n3 s3 => ?_)
  intro _
  refine gj_nextI (go_wf fun hw3 => cm_M_wordy_89 (d := d + 4) hc3 ?_)
  have e32 : (32 : Int32) = nI 32 := by decide +kernel
  have ma : mx am σ2.nx := hc3.out St3.1.1 rfl
  refine mo_binit (d := d + 3) hc3 (by omega) hw3 (fun σ4 hc4 f4 B4 n4 s4 => ?_)
  intro _
  obtain ⟨St4, A4⟩ := St3.fm f4 A3 ma (by omega) (by omega) (fun q => q) (fun q => q)
  refine gj_nextV (cm_M_wordy_101 (d := d + 4) hc4 B4.1 ?_)
  rw [e32]
  refine mo_bapp (d := d) hc4 B4 (fun j hj q => by have := ham j hj; omega) (by omega) (by omega) (Nat.zero_le _) (by omega) (by decide) (fun σ5 r5 cap5 hc5 f5 B5 mr5 z5 o5 n5 c5 s5 m5 => ?_)
  intro _
  have h5n := f5.1
  obtain ⟨St5, A5⟩ := St4.fm f5 A4 ma (by omega) (by omega) (by omega) (by omega)
  refine gj_nextI (cm_M_wordy_106 (d := d + 4) (w := w2.setA 0 47 (some σ2.nx)) hc5 B5.1 rfl ?_)
  have l5 : ([] ++ [nI 32] : List Int32).length = 1 := rfl
  have l50 : ([] : List Int32).length = 0 := rfl
  rw [l50] at m5
  refine mo_bapps (d := d) hc5 B5 mr5 St5 (by omega) z5 (by rw [l5, ln]; omega) (by omega) (fun q hq => ?_) (fun σ6 r6 cap6 hc6 f6 B6 mr6 z6 o6 n6 c6 s6 => ?_)
  · have : q = σ2.nx + 1 := Option.some.inj (hq.symm.trans A5)
    omega
  intro _
  rw [l5, ln] at c6 s6
  have h6n := f6.1
  obtain ⟨St6, A6⟩ := St5.fm f6 A5 ma (by omega) (by omega) (by omega) (by omega)
  refine gj_nextI (cm_M_wordy_113 (d := d + 4) hc6 B6.1 ?_)
  rw [e32]
  have l6 : (([] ++ [nI 32]) ++ sc_lows T s e : List Int32).length = 1 + (e - s) := by rw [List.length_append, l5, ln]
  refine mo_bapp (d := d) hc6 B6 mr6 (by omega) z6 (by rw [l6]; omega) (by omega) (by decide) (fun σ7 r7 cap7 hc7 f7 B7 mr7 z7 o7 n7 c7 s7 m7 => ?_)
  intro _
  rw [l6] at m7
  have h7n := f7.1
  obtain ⟨St7, A7⟩ := St6.fm f7 A6 ma (by omega) (by omega) (by omega) (by omega)
  refine gj_nextI (cm_M_wordy_118 (d := d + 4) hc7 B7.1 ?_)
  refine mo_bstr (d := d) hc7 B7 mr7 (by omega) (by omega) (by omega) (fun σ8 hc8 f8 St8 A8 n8 s8 => ?_)
  intro _
  obtain ⟨St9, A9⟩ := St7.fm f8 A7 ma (by omega) (by omega) (fun q => q) (fun q => q)
  have l7 : ((([] ++ [nI 32]) ++ sc_lows T s e) ++ [nI 32] : List Int32).length = 2 + (e - s) := by rw [List.length_append, l6]; show 1 + (e - s) + 1 = _; omega
  rw [l7] at s8
  rw [ln] at s3
  have F4 : Fm am (fun _ => False) σ σ4 := (F2.tr f3).tr f4
  have F8 : Fm am (fun _ => False) σ σ8 := (((F4.trans (ex := fun _ => False) f5 (fun _ _ q => q) (fun a ha q => by omega)).trans (ex := fun _ => False) f6 (fun _ _ q => q) (fun a ha q => by omega)).trans (ex := fun _ => False) f7 (fun _ _ q => q) (fun a ha q => by omega)).tr f8
  have S3 : SS w (w2.setA 0 47 (some σ2.nx)) := S2.trans (SS.setA _ _ (by decide) (by decide))
  have P8 : PM z σ8 am (w2.setA 0 47 (some σ2.nx)) T L sa := h.fr hc8 F8 S3.ws
  have M8 : MSt z σ8 := P8.2.2.2.2.2.2.2.1
  refine gj_nextI (cm_M_wordy_121 (d := d + 4) hc8 (ms_c144 M8).1 ?_)
  refine str_ios (d := d) (str_om hc8 (ms_c144 M8)) (St8.ov hc8) (by decide) (by decide) (by rw [l7]; omega) (by rw [l7]; omega) (fun r9 h9 => ?_)
  intro _
  have w9 := wd_iff (x := sc_lows T s e) (by rw [ln]; omega) (by rw [← he]; exact lows_32 hT)
  have h9' : 0 ≤ r9 ↔ sc_lows T s e ∈ sc_words := (show 0 ≤ r9 ↔ ∃ p, occ wd_all (32 :: (sc_lows T s e ++ [32])) p from h9).trans w9
  have lo9 : σ.nx ≤ σ2.nx ∧ ∀ b, σ8.A 81 σ2.nx = some b → σ.nx ≤ b := ⟨F2n, fun b hb => by have := Option.some.inj (hb.symm.trans A9); omega⟩
  have nb : σ8.nx ≤ σ.nx + 12 * (e - s) := by omega
  have sb : σ8.sl ≤ σ.sl + 110 * (e - s) := by omega
  refine gj_nextI (cm_M_wordy_124 (d := d + 4) (b1 := σ2.nx) hc8 St9.1.1 (fun _ => rfl) (fun q => ?_) (fun q => ?_))
  · have hno : ¬ sc_lows T s e ∈ sc_words := fun q9 => absurd (h9'.mpr q9) (fun q8 => absurd q (Int32.not_lt.mpr q8))
    have hid : sc_idx (sc_lows T s e) sc_words = 15 := by
      have h1 := idx_le9 (x := sc_lows T s e) sc_words
      have h2 : ¬ sc_idx (sc_lows T s e) sc_words < sc_words.length := fun q9 => hno ((idx_mem sc_words).mp q9)
      have h3 : sc_words.length = 15 := rfl
      omega
    refine str_len (d := d + 3) (St9.ov hc8) (fun _ => gj_nextI (cm_M_wordy_149 (d := d + 4) hc8 (fun q9 => ?_) (fun q9 => ?_)))
    · rw [ln] at q9
      have e20 : 20 < e - s := by
        rcases Nat.lt_or_ge 20 (e - s) with e9 | e9
        · exact e9
        · exact absurd (show nI 20 < nI (e - s) from q9) (nI_nlt (by omega) (by decide))
      have ew : sc_ofWord T s e = 34 := by unfold sc_ofWord; rw [if_pos e20]
      refine k σ8 _ σ2.nx (P8.w (SS.setI _ _ (by decide) (by decide))) F8 (S3.trans (SS.setI _ _ (by decide) (by decide))) g45 g46 rfl St9 lo9 ?_ (Or.inr ew) hse nb sb
      rw [ew, if_pos rfl]
      rfl
    · rw [ln] at q9
      have e20 : ¬ 20 < e - s := fun e9 => q9 (show nI 20 < nI (e - s) from nI_lt e9 (by omega))
      have ew : sc_ofWord T s e = 15 := by unfold sc_ofWord; rw [if_neg e20, hid]
      refine k σ8 _ σ2.nx (P8.w (SS.setI _ _ (by decide) (by decide))) F8 (S3.trans (SS.setI _ _ (by decide) (by decide))) g45 g46 rfl St9 lo9 ?_ (Or.inl (by omega)) hse nb sb
      rw [ew, if_neg (by decide), if_pos rfl]
      rfl
  · have hyes : sc_lows T s e ∈ sc_words := h9'.mp (Int32.not_lt.mp q)
    have hid : sc_idx (sc_lows T s e) sc_words < 15 := (idx_mem sc_words).mpr hyes
    have hsh := words_short _ hyes
    rw [ln] at hsh
    have ew : sc_ofWord T s e = sc_idx (sc_lows T s e) sc_words := by unfold sc_ofWord; rw [if_neg (by omega)]
    refine k σ8 _ σ2.nx (P8.w (SS.setI _ _ (by decide) (by decide))) F8 (S3.trans (SS.setI _ _ (by decide) (by decide))) g45 g46 rfl St9 lo9 ?_ (Or.inl (by omega)) hse nb sb
    rw [ew, if_neg (by omega), if_neg (by omega)]
    rfl
end MWord3
