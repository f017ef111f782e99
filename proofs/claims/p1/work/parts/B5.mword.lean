/-! ===== the reference's scanner: words ===== -/
theorem go_re {z : State} {l : Launch} {M : Mt} {d pc : Nat} {ls st : List Value} {σ σ' : Hp} {Q : Outcome → Hp → Prop} (e : σ = σ') (k : Go z l M d pc ls st σ' Q) : Go z l M d pc ls st σ Q := e ▸ k
theorem Bld.ov {z : State} {σ : Hp} {am : Nat → Nat} {w : Wd} {b r cap : Nat} {cs : List Int32} (hc : CM z σ am) (hr : mx am r) (h : Bld σ b r cs cap) : Bld (ov σ am 7 w) b r cs cap := by
  obtain ⟨h1, h2, h3, h4, h5, h6, h7, h8⟩ := h
  have mb := hc.out h1 rfl
  exact ⟨h1, (nn_I mb).trans h2, (nn_A mb).trans h3, h4, h5, (nn_I mb).trans h6, h7, fun i hi => by rw [nn_eI hr]; exact h8 i hi⟩
theorem CM.lt {z : State} {σ : Hp} {am : Nat → Nat} {w : Wd} (hc : CM z σ am) (hw : hp_wf (ov σ am 7 w)) : ∀ i, i < 7 → am i < σ.nx := fun i hi => by
  have h0 : (ov σ am 7 w).tag (am i) ≠ 0 := by
    show σ.tag (am i) ≠ 0
    rw [(hc.2 i hi).1]
    exact (show ∀ i, i < 7 → cm_tag i ≠ 0 by decide) i hi
  exact hw.lt h0
theorem wd_chr {j : Nat} (h : j ≤ 127) : (nI j < 65 → ((nI j).toUInt32 % 65536).toInt32 = sc_low (nI j)) ∧ (90 < nI j → ((nI j).toUInt32 % 65536).toInt32 = sc_low (nI j)) ∧ (¬ nI j < 65 → ¬ 90 < nI j → ((nI j + 32).toUInt32 % 65536).toInt32 = sc_low (nI j)) ∧ ∃ i, i < 128 ∧ sc_low (nI j) = nI i :=
  (by decide +kernel : ∀ j, j < 128 → (nI j < 65 → ((nI j).toUInt32 % 65536).toInt32 = sc_low (nI j)) ∧ (90 < nI j → ((nI j).toUInt32 % 65536).toInt32 = sc_low (nI j)) ∧ (¬ nI j < 65 → ¬ 90 < nI j → ((nI j + 32).toUInt32 % 65536).toInt32 = sc_low (nI j)) ∧ ∃ i, i < 128 ∧ sc_low (nI j) = nI i) j (by omega)
theorem lows_snoc {T : Nat → Int32} {s i : Nat} (h : s ≤ i) : sc_lows T s (i + 1) = sc_lows T s i ++ [sc_low (T i)] := by
  unfold sc_lows
  rw [show i + 1 - s = (i - s) + 1 by omega, List.range_succ, List.map_append]
  simp only [List.map_cons, List.map_nil]
  rw [show s + (i - s) = i by omega]
theorem lows_self {T : Nat → Int32} {s : Nat} : sc_lows T s s = [] := by simp [sc_lows]
/-- the builder b while the word from s on is read to i -/
def WI (z : State) (σ : Hp) (am : Nat → Nat) (w : Wd) (T : Nat → Int32) (L sa s b : Nat) (σ1 : Hp) (w1 : Wd) (r cap i : Nat) : Prop :=
  PM z σ1 am w1 T L sa ∧ Fm am (fun _ => False) σ σ1 ∧ SS w w1 ∧ w1.I 0 45 = w.I 0 45 ∧ w1.I 0 46 = nI i ∧ Bld σ1 b r (sc_lows T s i) cap ∧ σ.nx ≤ b ∧ σ.nx ≤ r ∧ (s ≤ i ∧ i ≤ L) ∧ σ1.nx ≤ σ.nx + 2 + (i - s) ∧ σ1.sl + 12 ≤ σ.sl + 2 * cap ∧ cap ≤ 2 * (i - s) + 16 ∧ 16 ≤ cap
section MWord
variable {z : State} {l : Launch} {d : Nat} {σ : Hp} {am : Nat → Nat} {w : Wd} {Q : Outcome → Hp → Prop} {T : Nat → Int32} {L sa s b : Nat}
theorem mo_wl (ham : ∀ i, i < 7 → am i < σ.nx) (hsa : sa < σ.nx) (hzn : z.heap.size ≤ σ.nx) : ∀ (n i : Nat) (σ1 : Hp) (w1 : Wd) (r cap : Nat) (u : Value), L ≤ i + n → WI z σ am w T L sa s b σ1 w1 r cap i →
    (∀ σ2 w2 r2 cap2, WI z σ am w T L sa s b σ2 w2 r2 cap2 (sc_word T L n i) → Go z l mt_JStringBuilder_toString (d + 12) 0 [.ref b] [] (ov σ2 am 7 w2) (fun o σ9 => hp_Le (ov σ2 am 7 w2) σ9 → gj_next z l mt_M_wordy (d + 13) 86 [.ref (am 0), .ref b, .retAddr 0] [.ref (am 0)] Q o σ9)) →
    Go z l mt_M_wordy (d + 13) 8 [.ref (am 0), .ref b, u] [] (ov σ1 am 7 w1) Q := by
  intro n
  have head : ∀ (i : Nat) (σ1 : Hp) (w1 : Wd) (r cap : Nat) (u : Value), WI z σ am w T L sa s b σ1 w1 r cap i →
      (i < L ∧ (sc_let (T i) ∨ sc_dig (T i)) → Go z l mt_M_wordy (d + 13) 44 [.ref (am 0), .ref b, .retAddr 0] [.int (atv T L i)] (ov σ1 am 7 w1) Q) →
      (¬ (i < L ∧ (sc_let (T i) ∨ sc_dig (T i))) → Go z l mt_JStringBuilder_toString (d + 12) 0 [.ref b] [] (ov σ1 am 7 w1) (fun o σ9 => hp_Le (ov σ1 am 7 w1) σ9 → gj_next z l mt_M_wordy (d + 13) 86 [.ref (am 0), .ref b, .retAddr 0] [.ref (am 0)] Q o σ9)) →
      Go z l mt_M_wordy (d + 13) 8 [.ref (am 0), .ref b, u] [] (ov σ1 am 7 w1) Q := by
    intro i σ1 w1 r cap u hI k1 k2
    obtain ⟨hP, hF, hS, h45, h46, hB, hb, hr, ⟨his, hiL⟩, hn1, hs1, hc1, hc2⟩ := hI
    have hL := hP.2.2.2.2.2.1
    have hT := hP.2.2.2.2.2.2.1
    have at9 : ∀ {Q9}, Q9 (.returned (some (.int (atv T L i)))) (ov σ1 am 7 w1) → Go z l mt_M_at (d + 12) 0 [.ref (am 0), .int (w1.I 0 46)] [] (ov σ1 am 7 w1) Q9 := fun k => by rw [h46]; exact mo_at (d := d + 3) hP (by omega) k
    refine fgt3 (cm_M_wordy_8 (d := d + 4) hP.1 (at9 (fun _ => gj_nextI (cm_M_wordy_16 (d := d + 4) hP.1 (mo_let (d := d + 3) hP.1 (fun _ => gj_nextI ?_))))))
    by_cases hl9 : sc_let (atv T L i)
    · rw [decide_eq_true hl9]
      exact cm_M_wordy_19 (d := d + 4) hP.1 (fun _ => at9 (fun _ => gj_nextI (k1 ⟨((atv_let hT).mp hl9).1, Or.inl ((atv_let hT).mp hl9).2⟩))) (fun q => absurd q (by decide))
    · rw [decide_eq_false hl9]
      refine cm_M_wordy_19 (d := d + 4) hP.1 (fun q => absurd rfl q) (fun _ => at9 (fun _ => gj_nextI (cm_M_wordy_30 (d := d + 4) hP.1 (mo_dig (d := d + 3) hP.1 (fun _ => gj_nextI ?_)))))
      by_cases hd9 : sc_dig (atv T L i)
      · rw [decide_eq_true hd9]
        exact cm_M_wordy_33 (d := d + 4) hP.1 hB.1 (fun q => absurd q (by decide)) (fun _ => at9 (fun _ => gj_nextI (k1 ⟨((atv_dig hT).mp hd9).1, Or.inr ((atv_dig hT).mp hd9).2⟩)))
      · rw [decide_eq_false hd9]
        exact cm_M_wordy_33 (d := d + 4) hP.1 hB.1 (fun _ => k2 (fun q => q.2.elim (fun q2 => hl9 ((atv_let hT).mpr ⟨q.1, q2⟩)) (fun q2 => hd9 ((atv_dig hT).mpr ⟨q.1, q2⟩)))) (fun q => absurd rfl q)
  induction n with
  | zero =>
    intro i σ1 w1 r cap u hn hI k
    exact head i σ1 w1 r cap u hI (fun q => by omega) (fun _ => k σ1 w1 r cap hI)
  | succ n ih =>
    intro i σ1 w1 r cap u hn hI k
    refine head i σ1 w1 r cap u hI (fun q => ?_) (fun q => k σ1 w1 r cap (by rw [sc_word, if_neg q]; exact hI))
    obtain ⟨hP, hF, hS, h45, h46, hB, hb, hr, ⟨his, hiL⟩, hn1, hs1, hc1, hc2⟩ := hI
    have hL := hP.2.2.2.2.2.1
    have hT := hP.2.2.2.2.2.2.1
    refine go_wf fun hw => ?_
    have mr : mx am r := fun j hj e => by have := ham j hj; omega
    have lsn : (sc_lows T s i).length ≤ 1002 := by rw [lows_len]; omega
    obtain ⟨j, hj, ej, ea⟩ : ∃ j, j ≤ 127 ∧ T i = nI j ∧ atv T L i = nI j := by
      rcases atv_cases (L := L) (i := i) hT with ⟨h, e⟩ | ⟨h, j, hj, e1, e2⟩ | ⟨h, j, u, hj1, hj2, e1, hu1, hu2, e2⟩
      · exact absurd q.1 h
      · exact ⟨j, hj, e1, e2⟩
      · rw [e1] at q
        exact absurd q.2 ((by decide +kernel : ∀ j, j < 129 → 1 ≤ j → ¬ (sc_let (-nI j) ∨ sc_dig (-nI j))) j (by omega) hj1)
    obtain ⟨w1', w2', w3', i', hi', ei'⟩ := wd_chr hj
    have app : Go z l mt_JStringBuilder_append_0 (d + 12) 0 [.ref b, .int (nI i')] [] (ov σ1 am 7 w1) (fun o σ9 => hp_Le (ov σ1 am 7 w1) σ9 → gj_next z l mt_M_wordy (d + 13) 67 [.ref (am 0), .ref b, .int (nI j)] [] Q o σ9) := by
      refine bd_app (d := d) (hB.ov hP.1 mr) (by omega) (by omega) lsn (by omega) (by omega) (fun σ2 r2 cap2 f2 B2 z2 o2 n2 c2 s2 m2 => ?_)
      intro _
      obtain ⟨eH, hc2', fm⟩ := mo_re hP.1 hw f2 (fun k9 hk9 e => by have := ham k9 hk9; omega)
      refine gj_nextI (go_re eH (cm_M_wordy_70 (d := d + 4) hc2' ?_))
      have n1e : (ov σ1 am 7 w1).nx = σ1.nx := rfl
      have s1e : (ov σ1 am 7 w1).sl = σ1.sl := rfl
      have hF1 := hF.1
      have P2 : PM z σ2 am w1 T L sa := hP.mv hc2' fm (by omega) (fun a e => by omega) (WS.rfl' _)
      have SS2 : SS w1 (w1.setI 0 46 (w1.I 0 46 + 1)) := SS.setI _ _ (by decide) (by decide)
      refine ih (i + 1) σ2 _ r2 cap2 _ (by omega) ⟨P2.w SS2, hF.trans fm (fun _ _ q => q) (fun a ha e => by omega), hS.trans SS2, h45, ?_, ?_, hb, by omega, ⟨by omega, by omega⟩, by omega, by omega, ?_, by omega⟩ (fun σ3 w3 r3 cap3 hI3 => k σ3 w3 r3 cap3 (by rw [sc_word, if_pos q]; exact hI3))
      · show up22 w1.I 0 46 (w1.I 0 46 + 1) 0 46 = _
        rw [up22_eq, if_pos ⟨rfl, rfl⟩, h46]
        exact nI_1 i
      · rw [lows_snoc his, ej, ei']
        exact B2
      · rw [lows_len] at m2
        omega
    rw [ea]
    refine cm_M_wordy_44 (d := d + 4) hP.1 hB.1 (fun q9 => ?_) (fun _ q9 => ?_) (fun q9 q8 => ?_)
    · rw [w1' q9, ei']; exact app
    · rw [w2' q9, ei']; exact app
    · rw [w3' q9 q8, ei']; exact app
end MWord
