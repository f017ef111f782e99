/-! ===== words: the strings of the signs and of the functions ===== -/
/-- a string of small characters -/
def Str (σ : Hp) (a : Nat) (cs : List Int32) : Prop := σ.tag a = 12 ∧ σ.I 82 a = 0 ∧ ∃ b, σ.A 81 a = some b ∧ σ.tag b = 21 ∧ σ.len b = cs.length ∧ ∀ i, i < cs.length → σ.eI b i = cs.getD i 0
/-- one that was there at the law's start -/
def StrO (z : State) (σ : Hp) (a : Nat) (cs : List Int32) : Prop := σ.tag a = 12 ∧ σ.I 82 a = 0 ∧ a < z.heap.size ∧ ∃ b, b < z.heap.size ∧ σ.A 81 a = some b ∧ σ.tag b = 21 ∧ σ.len b = cs.length ∧ ∀ i, i < cs.length → σ.eI b i = cs.getD i 0
def sc_sgw (i : Nat) : List Int32 := sc_words.getD i []
def sc_opw (i : Nat) : List Int32 := if 35 ≤ i then sc_funs.getD (i - 35) [] else []
def OpW (z : State) (σ : Hp) (op : Nat → Nat) : Prop := ∀ i, i < 43 → ∃ a, va_OF "TruthBench$Op" "word" "Ljava/lang/String;" (.ref a) (op i) (fun q => z.heap.size ≤ q) z z.heap ∧ StrO z σ a (sc_opw i)
def WSt (z : State) (σ : Hp) (op sg : Nat → Nat) (L : Nat) : Prop := (∀ i, i < 35 → ∃ a, va_OF "TruthBench$Sign" "word" "Ljava/lang/String;" (.ref a) (sg i) (fun q => z.heap.size ≤ q) z z.heap ∧ StrO z σ a (sc_sgw i)) ∧ (0 < L → OpW z σ op)
theorem str_ov {z : State} {σ : Hp} {ad : Nat → Nat} {w : Wd} {a : Nat} {cs : List Int32} (hc : CW z σ ad) (h : StrO z σ a cs) : Str (ov σ ad 21 w) a cs := by
  obtain ⟨h1, h2, h3, b, h4, h5, h6, h7, h8⟩ := h
  have no : ∀ x, x < z.heap.size → ovx ad 21 x = none := fun x hx => by
    rcases ovx_cases ad 21 x with ⟨i, hi, e⟩ | ⟨-, q⟩
    · have := (hc.2 i hi).2.2
      omega
    · exact q
  refine ⟨h1, ?_, b, ?_, h6, h7, fun i hi => ?_⟩
  · show ovm ad 21 a _ _ = _
    rw [ovm_none (no a h3)]
    exact h2
  · show ovm ad 21 a _ _ = _
    rw [ovm_none (no a h3)]
    exact h5
  · show (ovm ad 21 b w.eI (σ.eI b)) i = _
    rw [ovm_none (no b h4)]
    exact h8 i hi
/-- a small character -/
def sm (c : Int32) : Prop := ∃ j, j ≤ 126 ∧ c = nI j
theorem sm_chr {c : Int32} (h : sm c) : ((c &&& 255).toUInt32 % 65536).toInt32 = c ∧ narrow .char (.int c) = .int c := by
  obtain ⟨j, hj, rfl⟩ := h
  exact ⟨(by decide +kernel : ∀ j, j < 127 → ((nI j &&& 255).toUInt32 % 65536).toInt32 = nI j) j (by omega), (by decide +kernel : ∀ j, j < 127 → narrow .char (.int (nI j)) = .int (nI j)) j (by omega)⟩
theorem shr0 (x : Int32) : x >>> ((0 : Int32) &&& 31) = x := by
  rw [show ((0 : Int32) &&& 31) = 0 by decide]
  simp
section Word
variable {z : State} {l : Launch} {d : Nat} {σ : Hp} {ad : Nat → Nat} {w : Wd} {Q : Outcome → Hp → Prop} {op sg : Nat → Nat} {aO aS mO mS : Nat} {T : Nat → Int32}
theorem str_len {a : Nat} {cs : List Int32} (h : Str σ a cs) (k : Q (.returned (some (.int (nI cs.length)))) σ) : Go z l mt_JString_length (d + 9) 0 [.ref a] [] σ Q := by
  obtain ⟨h1, h2, b, h3, h4, h5, h6⟩ := h
  refine js_JString_length (d := d) h1 h3 h4 h2 ?_
  rw [shr0, h5]
  exact k
theorem str_chr {a i : Nat} {cs : List Int32} (h : Str σ a cs) (hi : i < cs.length) (hc : sm (cs.getD i 0)) (hl : cs.length < 2 ^ 31) (k : Q (.returned (some (.int (cs.getD i 0)))) σ) : Go z l mt_JString_charAt (d + 9) 0 [.ref a, .int (nI i)] [] σ Q := by
  obtain ⟨h1, h2, b, h3, h4, h5, h6⟩ := h
  have e1 : (nI i).toNatClampNeg = i := nI_clamp (by omega)
  obtain ⟨c1, c2⟩ := sm_chr hc
  have p1 : nI i < 0 → False := nI_pos (by omega)
  have p2 : ¬ nI i < 0 → nI i < nI (σ.len b) → vp_in (nI i) (σ.len b) := fun _ _ => by rw [h5]; exact vp_in_nI hi hl
  have p3 : ¬ nI i < 0 → nI i < nI (σ.len b) → narrow .char (.int ((σ.eI b (nI i).toNatClampNeg &&& 255).toUInt32 % 65536).toInt32) = .int ((σ.eI b (nI i).toNatClampNeg &&& 255).toUInt32 % 65536).toInt32 := fun _ _ => by rw [e1, h6 i hi, c1]; exact c2
  have p4 : ¬ nI i < 0 → nI i < nI (σ.len b) → Q (.returned (some (.int ((σ.eI b (nI i).toNatClampNeg &&& 255).toUInt32 % 65536).toInt32))) σ := fun _ _ => by rw [e1, h6 i hi, c1]; exact k
  have p5 : ¬ nI i < 0 → ¬ nI i < nI (σ.len b) → False := fun _ q => q (by rw [h5]; exact nI_lt hi hl)
  exact js_JString_charAt (d := d) h1 h2 h3 h4 p1 p2 p3 p3 p4 p5 p1 p2 p3 p3 p4 p5
theorem lows_eq {s e : Nat} {cs : List Int32} : sc_lows T s e = cs ↔ e - s = cs.length ∧ ∀ j, j < cs.length → sc_low (T (s + j)) = cs.getD j 0 := by
  constructor
  · rintro rfl
    refine ⟨by simp [sc_lows], fun j hj => ?_⟩
    have hj' : j < e - s := by simpa [sc_lows] using hj
    simp [sc_lows, List.getD, hj']
  · rintro ⟨h1, h2⟩
    refine List.ext_getElem (by simp [sc_lows, h1]) (fun j a1 a2 => ?_)
    have := h2 j a2
    simp [sc_lows]
    rw [this]
    simp [List.getD, a2]
/-- whether the bytes are the word -/
theorem cl_isWord {s e a : Nat} {cs : List Int32} (hc : CW z σ ad) (hstr : StrO z σ a cs) (hsm : ∀ j, j < cs.length → sm (cs.getD j 0)) (hcl : cs.length ≤ 1000) (hT : w.eI 1 = T) (hse : s ≤ e) (he : e ≤ 1000) (k : Q (.returned (some (.int (b2i (decide (sc_lows T s e = cs)))))) (ov σ ad 21 w)) : Go z l mt_T_isWord (d + 10) 0 [.ref (ad 1), .int (nI s), .int (nI e), .ref a, .retAddr 0] [] (ov σ ad 21 w) Q := by
  have S := str_ov (w := w) hc hstr
  have ky : sc_lows T s e = cs → Q (.returned (some (.int 1))) (ov σ ad 21 w) := fun h => by rw [decide_eq_true h] at k; exact k
  have kn : ¬ sc_lows T s e = cs → Q (.returned (some (.int 0))) (ov σ ad 21 w) := fun h => by rw [decide_eq_false h] at k; exact k
  refine cs_T_isWord (d := d + 1) hc hstr.1 (str_len (d := d) S (fun _ => gj_nextI ?_))
  have es : nI e - nI s = nI (e - s) := pk_sub hse
  refine cs_T_isWord_4 (d := d + 1) hc (fun h => ?_) (fun h => kn (fun q => h ?_))
  · rw [es, nI_eq (by omega) (by omega)] at h
    have loop : ∀ (m i : Nat), i + m = cs.length → (∀ j, j < i → sc_low (T (s + j)) = cs.getD j 0) → Go z l mt_T_isWord (d + 10) 15 [.ref (ad 1), .int (nI s), .int (nI e), .ref a, .int (nI i)] [] (ov σ ad 21 w) Q := by
      intro m
      induction m with
      | zero =>
        intro i hi hj
        refine cs_T_isWord_15 (d := d + 1) hc hstr.1 (str_len (d := d) S (fun _ => gj_nextI ?_))
        have q : nI cs.length ≤ nI i := nI_le (by omega) (by omega)
        exact cs_T_isWord_21 (d := d + 1) hc hstr.1 (fun _ => ky (lows_eq.mpr ⟨h.symm, fun j hj2 => hj j (by omega)⟩)) (fun h => absurd q h) (fun h => absurd q h) (fun h => absurd q h) (fun h => absurd q h)
      | succ m ih =>
        intro i hi hj
        refine cs_T_isWord_15 (d := d + 1) hc hstr.1 (str_len (d := d) S (fun _ => gj_nextI ?_))
        have q : ¬ nI cs.length ≤ nI i := nI_ge (by omega) (by omega)
        have ev : (nI s + nI i).toNatClampNeg = s + i := by rw [nI_add]; exact nI_clamp (by omega)
        have eb : w.eI 1 (nI s + nI i).toNatClampNeg = T (s + i) := by rw [ev, hT]
        have fin : ∀ x : Int32, x = sc_low (T (s + i)) → Go z l mt_JString_charAt (d + 9) 0 [.ref a, .int (nI i)] [] (ov σ ad 21 w) (fun o σ1 => hp_Le (ov σ ad 21 w) σ1 → gj_next z l mt_T_isWord (d + 10) 36 [.ref (ad 1), .int (nI s), .int (nI e), .ref a, .int (nI i)] [.int x] Q o σ1) := fun x hx => by
          refine str_chr (d := d) S (by omega) (hsm i (by omega)) (by omega) (fun _ => gj_nextI (cs_T_isWord_39 (d := d + 1) hc (fun h2 => ?_) (fun h2 => kn (fun q2 => h2 ?_))))
          · rw [nI_1]
            refine ih (i + 1) (by omega) (fun j hj2 => ?_)
            by_cases hji : j = i
            · subst hji
              exact hx.symm.trans h2
            · exact hj j (by omega)
          · exact hx.trans ((lows_eq.mp q2).2 i (by omega))
        refine cs_T_isWord_21 (d := d + 1) hc hstr.1 (fun h => absurd h q) (fun _ => ?_) (fun _ h2 => fin _ ?_) (fun _ h2 h3 => fin _ ?_) (fun _ h2 h3 => fin _ ?_)
        · rw [nI_add]; exact vp_in_nI (by omega) (by omega)
        · rw [eb] at h2 ⊢
          exact (if_neg (fun q => absurd h2 (Int32.not_lt.mpr q.1))).symm
        · rw [eb] at h3 ⊢
          exact (if_neg (fun q => absurd h3 (Int32.not_lt.mpr q.2))).symm
        · rw [eb] at h2 h3 ⊢
          exact (if_pos ⟨Int32.not_lt.mp h2, Int32.not_lt.mp h3⟩).symm
    exact loop cs.length 0 (Nat.zero_add _) (fun j hj => absurd hj (Nat.not_lt_zero _))
  · rw [es, (lows_eq.mp q).1]
/-- the first word that matches -/
theorem idx_skip {x : List Int32} : ∀ (ws : List (List Int32)) (i : Nat), (∀ j, j < i → ¬ x = ws.getD j []) → i ≤ ws.length → i ≤ sc_idx x ws
  | ws, 0, _, _ => Nat.zero_le _
  | [], i + 1, _, h => absurd h (Nat.not_succ_le_zero _)
  | y :: ws, i + 1, h, hi => by
    have h0 : ¬ x = y := h 0 (Nat.zero_lt_succ _)
    have := idx_skip ws i (fun j hj => h (j + 1) (by omega)) (by simpa using hi)
    unfold sc_idx
    rw [if_neg h0]
    omega
theorem idx_hit {x : List Int32} : ∀ (ws : List (List Int32)) (i : Nat), (∀ j, j < i → ¬ x = ws.getD j []) → i < ws.length → x = ws.getD i [] → sc_idx x ws = i
  | [], i, _, h, _ => absurd h (Nat.not_lt_zero _)
  | y :: ws, 0, _, _, hx => if_pos hx
  | y :: ws, i + 1, h, hi, hx => by
    have h0 : ¬ x = y := h 0 (Nat.zero_lt_succ _)
    unfold sc_idx
    rw [if_neg h0, idx_hit ws i (fun j hj => h (j + 1) (by omega)) (by simpa using hi) hx]
theorem sgw_sm : ∀ i, i < 35 → (sc_sgw i).length ≤ 7 ∧ ∀ j, j < (sc_sgw i).length → 0 ≤ (sc_sgw i).getD j 0 ∧ (sc_sgw i).getD j 0 ≤ 126 := by decide +kernel
theorem opw_sm : ∀ i, i < 43 → (sc_opw i).length ≤ 8 ∧ ∀ j, j < (sc_opw i).length → 0 ≤ (sc_opw i).getD j 0 ∧ (sc_opw i).getD j 0 ≤ 126 := by decide +kernel
theorem sm_of {c : Int32} (h1 : 0 ≤ c) (h2 : c ≤ 126) : sm c := by
  obtain ⟨j, hj, rfl⟩ := nI_of (Int32.not_lt.mpr h1)
  exact ⟨j, by
    have := (nI_leI hj (b := 126) (by omega)).mp h2
    omega, rfl⟩
theorem cz_ofWord {s e L : Nat} (hc : CW z σ ad) (hs : gj_St z op sg aO aS mO mS) (hw : WSt z σ op sg L) (hT : w.eI 1 = T) (hse : s < e) (he : e ≤ 1000) (k : Q (.returned (some (.ref (sg (sc_idx (sc_lows T s e) sc_words))))) (ov σ ad 21 w)) : Go z l mt_Z_ofWord (d + 18) 0 [.ref (ad 1), .int (nI s), .int (nI e), .retAddr 0] [] (ov σ ad 21 w) Q := by
  have hll : (sc_lows T s e).length = e - s := by simp [sc_lows]
  have hwl : sc_words.length = 15 := rfl
  have loop : ∀ (m i : Nat), i + m = 35 → (∀ j, j < i → ¬ sc_lows T s e = sc_sgw j) → Go z l mt_Z_ofWord (d + 18) 2 [.ref (ad 1), .int (nI s), .int (nI e), .int (nI i)] [] (ov σ ad 21 w) Q := by
    intro m
    induction m with
    | zero =>
      intro i hi hj
      have q : (35 : Int32) ≤ nI i := nI_le (a := 35) (by omega) (by omega)
      refine go_iload_n rfl rfl dd_Z_ofWord_2 (go_gets mw_441 dd_Z_ofWord_3 (fun _ => hs.2.2.2.1.1) (go_alenT hs.2.2.2.1.2 dd_Z_ofWord_6 (v := 35) (by decide +kernel) (go_icmp_ge (tgt := 39) (by decide) dd_Z_ofWord_7 (fun _ => ?_) (fun h => absurd q h))))
      refine go_getS (k := 15) hs (by decide) mw_497 dd_Z_ofWord_39 (go_aret (v := some (sg 15)) rfl (Or.inl ⟨_, rfl⟩) dd_Z_ofWord_42 ?_)
      have h15 : sc_idx (sc_lows T s e) sc_words = 15 := by
        have h1 := idx_skip (x := sc_lows T s e) sc_words 15 (fun j hj2 => hj j (by omega)) (by decide)
        have h2 : sc_idx (sc_lows T s e) sc_words ≤ 15 := by
          have : ∀ (x : List Int32) (ws : List (List Int32)), sc_idx x ws ≤ ws.length := by
            intro x ws
            induction ws with
            | nil => exact Nat.le_refl _
            | cons y ws ih =>
              unfold sc_idx
              split
              · exact Nat.zero_le _
              · show sc_idx x ws + 1 ≤ ws.length + 1
                omega
          exact this _ _
        omega
      rw [h15] at k
      exact k
    | succ m ih =>
      intro i hi hj
      have q : ¬ (35 : Int32) ≤ nI i := nI_ge (b := 35) (by omega) (by omega)
      obtain ⟨a, hF, hstr⟩ := hw.1 i (by omega)
      obtain ⟨w1, w2⟩ := sgw_sm i (by omega)
      refine go_iload_n rfl rfl dd_Z_ofWord_2 (go_gets mw_441 dd_Z_ofWord_3 (fun _ => hs.2.2.2.1.1) (go_alenT hs.2.2.2.1.2 dd_Z_ofWord_6 (v := 35) (by decide +kernel) (go_icmp_ge (tgt := 39) (by decide) dd_Z_ofWord_7 (fun h => absurd h q) (fun _ => ?_))))
      refine go_aload_n rfl rfl dd_Z_ofWord_10 (go_iload_n rfl rfl dd_Z_ofWord_11 (go_iload_n rfl rfl dd_Z_ofWord_12 (go_gets mw_441 dd_Z_ofWord_13 (fun _ => hs.2.2.2.1.1) (go_iload_n rfl rfl dd_Z_ofWord_16 (go_aaldT (q := i) hs.2.2.2.1.2 rfl (by omega) (by decide) rfl dd_Z_ofWord_17 (go_getE hF mw_1875 dd_Z_ofWord_18 ?_))))))
      refine go_call (M' := mt_T_isWord) (d' := d + 17) (As := [.ref (ad 1), .int (nI s), .int (nI e), .ref a]) (rest := []) (gj_lkSN ml_443 mw_444 mw_1 cw_T_isWord pl_T_isWord np_T_isWord dd_Z_ofWord_21) cw_T_isWord mw_1 pn_T_isWord (Nat.le_of_ble_eq_true rfl) (ls0 := [.ref (ad 1), .int (nI s), .int (nI e), .ref a, .retAddr 0]) rfl (Nat.lt_succ_self _) (Nat.le_trans (gj_cats _) (Nat.le_of_ble_eq_true rfl)) (by decide) ?_
      refine cl_isWord (d := d + 7) hc hstr (fun j hj2 => sm_of (w2 j hj2).1 (w2 j hj2).2) (by omega) hT (by omega) he (fun _ => gj_nextI ?_)
      refine go_if_eq (tgt := 33) (by decide) dd_Z_ofWord_24 (fun h => ?_) (fun h => ?_)
      · have hne := of_decide_eq_false (b2i_0.mp h)
        refine go_iinc (v := nI i + 1) rfl (gj_iinc (by decide +kernel)) (by decide) rfl dd_Z_ofWord_33 (go_goto (tgt := 2) (by decide) dd_Z_ofWord_36 ?_)
        rw [nI_1]
        refine ih (i + 1) (by omega) (fun j hj2 => ?_)
        by_cases hji : j = i
        · subst hji; exact hne
        · exact hj j (by omega)
      · have heq := of_decide_eq_true (b2i_n.mp h)
        have hi15 : i < 15 := by
          rcases Nat.lt_or_ge i 15 with h1 | h1
          · exact h1
          · exfalso
            have h0 : (sc_sgw i).length = 0 := (by decide +kernel : ∀ i, i < 35 → 15 ≤ i → (sc_sgw i).length = 0) i (by omega) h1
            rw [← heq, hll] at h0
            omega
        refine go_gets mw_441 dd_Z_ofWord_27 (fun _ => hs.2.2.2.1.1) (go_iload_n rfl rfl dd_Z_ofWord_30 (go_aaldT (q := i) hs.2.2.2.1.2 rfl (by omega) (by decide) rfl dd_Z_ofWord_31 (go_aret (v := some (sg i)) rfl (Or.inl ⟨_, rfl⟩) dd_Z_ofWord_32 ?_)))
        rw [idx_hit sc_words i (fun j hj2 => hj j hj2) (by omega) heq] at k
        exact k
  refine go_iconst (v := 0) (by decide +kernel) dd_Z_ofWord_0 (go_istore_n (i := 3) rfl (by decide) rfl dd_Z_ofWord_1 ?_)
  exact loop 35 0 rfl (fun j hj => absurd hj (Nat.not_lt_zero _))
theorem co_ofFun {s e L : Nat} (hc : CW z σ ad) (hs : gj_St z op sg aO aS mO mS) (hw : WSt z σ op sg L) (hL0 : 0 < L) (hT : w.eI 1 = T) (hse : s < e) (he : e ≤ 1000) (k : Q (.returned (some (.ref (op (sc_ofFun T s e))))) (ov σ ad 21 w)) : Go z l mt_O_ofFunction (d + 18) 0 [.ref (ad 1), .int (nI s), .int (nI e), .retAddr 0] [] (ov σ ad 21 w) Q := by
  have hll : (sc_lows T s e).length = e - s := by simp [sc_lows]
  have loop : ∀ (m i : Nat), i + m = 43 → (∀ j, j < i → ¬ sc_lows T s e = sc_opw j) → Go z l mt_O_ofFunction (d + 18) 2 [.ref (ad 1), .int (nI s), .int (nI e), .int (nI i)] [] (ov σ ad 21 w) Q := by
    intro m
    induction m with
    | zero =>
      intro i hi hj
      have q : (43 : Int32) ≤ nI i := nI_le (a := 43) (by omega) (by omega)
      refine go_iload_n rfl rfl dd_O_ofFunction_2 (go_gets mw_621 dd_O_ofFunction_3 (fun _ => hs.2.2.1.1) (go_alenT hs.2.2.1.2 dd_O_ofFunction_6 (v := 43) (by decide +kernel) (go_icmp_ge (tgt := 39) (by decide) dd_O_ofFunction_7 (fun _ => ?_) (fun h => absurd q h))))
      refine go_getO (k := 42) hs (by decide) mw_624 dd_O_ofFunction_39 (go_aret (v := some (op 42)) rfl (Or.inl ⟨_, rfl⟩) dd_O_ofFunction_42 ?_)
      have h7 : sc_idx (sc_lows T s e) sc_funs = 7 := by
        have h1 := idx_skip (x := sc_lows T s e) sc_funs 7 (fun j hj2 => by
          have := hj (35 + j) (by omega)
          rw [sc_opw, if_pos (by omega), Nat.add_sub_cancel_left] at this
          exact this) (by decide)
        have h2 : sc_idx (sc_lows T s e) sc_funs ≤ 7 := by
          have : ∀ (x : List Int32) (ws : List (List Int32)), sc_idx x ws ≤ ws.length := by
            intro x ws
            induction ws with
            | nil => exact Nat.le_refl _
            | cons y ws ih =>
              unfold sc_idx
              split
              · exact Nat.zero_le _
              · show sc_idx x ws + 1 ≤ ws.length + 1
                omega
          exact this _ _
        omega
      rw [sc_ofFun, h7] at k
      exact k
    | succ m ih =>
      intro i hi hj
      have q : ¬ (43 : Int32) ≤ nI i := nI_ge (b := 43) (by omega) (by omega)
      obtain ⟨a, hF, hstr⟩ := hw.2 hL0 i (by omega)
      obtain ⟨w1, w2⟩ := opw_sm i (by omega)
      refine go_iload_n rfl rfl dd_O_ofFunction_2 (go_gets mw_621 dd_O_ofFunction_3 (fun _ => hs.2.2.1.1) (go_alenT hs.2.2.1.2 dd_O_ofFunction_6 (v := 43) (by decide +kernel) (go_icmp_ge (tgt := 39) (by decide) dd_O_ofFunction_7 (fun h => absurd h q) (fun _ => ?_))))
      refine go_aload_n rfl rfl dd_O_ofFunction_10 (go_iload_n rfl rfl dd_O_ofFunction_11 (go_iload_n rfl rfl dd_O_ofFunction_12 (go_gets mw_621 dd_O_ofFunction_13 (fun _ => hs.2.2.1.1) (go_iload_n rfl rfl dd_O_ofFunction_16 (go_aaldT (q := i) hs.2.2.1.2 rfl (by omega) (by decide) rfl dd_O_ofFunction_17 (go_getE hF mw_1877 dd_O_ofFunction_18 ?_))))))
      refine go_call (M' := mt_T_isWord) (d' := d + 17) (As := [.ref (ad 1), .int (nI s), .int (nI e), .ref a]) (rest := []) (gj_lkSN ml_623 mw_444 mw_1 cw_T_isWord pl_T_isWord np_T_isWord dd_O_ofFunction_21) cw_T_isWord mw_1 pn_T_isWord (Nat.le_of_ble_eq_true rfl) (ls0 := [.ref (ad 1), .int (nI s), .int (nI e), .ref a, .retAddr 0]) rfl (Nat.lt_succ_self _) (Nat.le_trans (gj_cats _) (Nat.le_of_ble_eq_true rfl)) (by decide) ?_
      refine cl_isWord (d := d + 7) hc hstr (fun j hj2 => sm_of (w2 j hj2).1 (w2 j hj2).2) (by omega) hT (by omega) he (fun _ => gj_nextI ?_)
      refine go_if_eq (tgt := 33) (by decide) dd_O_ofFunction_24 (fun h => ?_) (fun h => ?_)
      · have hne := of_decide_eq_false (b2i_0.mp h)
        refine go_iinc (v := nI i + 1) rfl (gj_iinc (by decide +kernel)) (by decide) rfl dd_O_ofFunction_33 (go_goto (tgt := 2) (by decide) dd_O_ofFunction_36 ?_)
        rw [nI_1]
        refine ih (i + 1) (by omega) (fun j hj2 => ?_)
        by_cases hji : j = i
        · subst hji; exact hne
        · exact hj j (by omega)
      · have heq := of_decide_eq_true (b2i_n.mp h)
        have h35 : 35 ≤ i ∧ i < 42 := by
          rcases Nat.lt_or_ge i 35 with h1 | h1
          · exfalso
            have h0 : (sc_opw i).length = 0 := by rw [sc_opw, if_neg (by omega)]; rfl
            rw [← heq, hll] at h0
            omega
          · rcases Nat.lt_or_ge i 42 with h2 | h2
            · exact ⟨h1, h2⟩
            · exfalso
              have h3 : i = 42 := by omega
              subst h3
              have h0 : (sc_opw 42).length = 0 := by decide
              rw [← heq, hll] at h0
              omega
        refine go_gets mw_621 dd_O_ofFunction_27 (fun _ => hs.2.2.1.1) (go_iload_n rfl rfl dd_O_ofFunction_30 (go_aaldT (q := i) hs.2.2.1.2 rfl (by omega) (by decide) rfl dd_O_ofFunction_31 (go_aret (v := some (op i)) rfl (Or.inl ⟨_, rfl⟩) dd_O_ofFunction_32 ?_)))
        have hx : sc_idx (sc_lows T s e) sc_funs = i - 35 := idx_hit sc_funs (i - 35) (fun j hj2 => by
          have := hj (35 + j) (by omega)
          rw [sc_opw, if_pos (by omega), Nat.add_sub_cancel_left] at this
          exact this) (by
            have : sc_funs.length = 7 := rfl
            omega) (by rw [heq, sc_opw, if_pos h35.1])
        rw [sc_ofFun, hx, show 35 + (i - 35) = i by omega] at k
        exact k
  refine go_iconst (v := 0) (by decide +kernel) dd_O_ofFunction_0 (go_istore_n (i := 3) rfl (by decide) rfl dd_O_ofFunction_1 ?_)
  exact loop 43 0 rfl (fun j hj => absurd hj (Nat.not_lt_zero _))
end Word
