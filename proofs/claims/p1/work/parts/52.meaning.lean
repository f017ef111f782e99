/-! ===== what an expression means: (check: kinds of the registers -> error, kind), (eval: registers -> error, value), width on the stack ===== -/
abbrev Ex : Type := ((Nat → Int32) → Int32 × Int32) × ((Nat → Va) → Int32 × Va) × Nat
def rg (S : Nat → Va) : Nat → Va := fun r => if r < 8 then S r else v_null
def ty_ok (k : Int32) (v : Va) : Prop := v_ok v ∧ v_in v ∧ (v.1 = 3 ∨ v.1 = k)
def rg_ok (kn : Nat → Int32) (S : Nat → Va) : Prop := ∀ r, r < 8 → ty_ok (kn r) (S r) ∧ ¬ kn r = 5
theorem rg_eq {S S' : Nat → Va} {t : Nat} (ht : 8 ≤ t) (h : ∀ s, s ≤ t → S' s = S s) : rg S' = rg S := by
  funext r
  unfold rg
  split
  · exact h r (by omega)
  · rfl
theorem rg_ok.mv {kn : Nat → Int32} {S S' : Nat → Va} {t : Nat} (hr : rg_ok kn S) (ht : 8 ≤ t) (h : ∀ s, s ≤ t → S' s = S s) : rg_ok kn S' := fun r hr9 => by rw [h r (by omega)]; exact hr r hr9
/-- a part fits a due kind -/
abbrev sp_fits (k due : Int32) : Prop := k = due ∨ k = 3 ∨ due = 3 ∨ due = 5
def sp_takes (o n : Nat) : Bool := if o = 35 ∨ o = 36 ∨ o = 37 ∨ o = 38 then n == 1 else if o = 41 then n == 2 else if o = 39 then n == 3 else if o = 40 then decide (1 ≤ n) else decide (o ≠ 42)
def sp_due (o i n : Nat) : Int32 := if o = 34 then (if i % 2 = 0 ∧ i + 1 < n then op_first.getD o 0 else op_rest.getD o 0) else if i = 0 then op_first.getD o 0 else op_rest.getD o 0
/-- the kinds of the parts one after the other: the error, the kind that is the same for them -/
def sp_kl (o n : Nat) : List Int32 → Nat → Int32 → Int32 → Int32 × Int32
  | [], _, s, e => (e, s)
  | k :: ks, i, s, e => if sp_due o i n = 4 then sp_kl o n ks (i + 1) (if s = 3 then k else s) (if sp_fits k s then e else 1) else sp_kl o n ks (i + 1) s (if sp_fits k (sp_due o i n) then e else 1)
def sp_kc (o : Nat) (ks : List Int32) : Int32 × Int32 := if sp_takes o ks.length = true then ((sp_kl o ks.length ks 0 3 0).1, if op_result.getD o 0 = 4 then (sp_kl o ks.length ks 0 3 0).2 else op_result.getD o 0) else (2, 0)
/-- soundness: what is well typed gives a value of its kind -/
def EX_S (m : Ex) : Prop := ∀ kn R k, rg_ok kn R → m.1 kn = (0, k) → (m.2.1 R).1 = 0 → ty_ok k (m.2.1 R).2
/-- the steps a .. b - 1 stand for m in the working out -/
def RepW (m : Ex) (a b c0 c1 : Nat) (ko0 : Nat → Nat) (ar0 : Nat → Int64) (ch0 : Nat → Int32) : Prop :=
  ∀ (z : State) (l : Launch) (d : Nat) (σ : Hp) (ad : Nat → Nat) (Q : Outcome → Hp → Prop) (op sg : Nat → Nat) (aO aS mO mS : Nat) (ko : Nat → Nat) (w : Wd) (len : Nat) (S : Nat → Va) (t : Nat) (kn : Nat → Int32),
    KP z σ ad op sg aO aS mO mS ko w len → b ≤ len → (∀ j, a ≤ j → j < b → ko j = ko0 j ∧ w.eJ 10 j = ar0 j) → (∀ j, c0 ≤ j → j < c1 → w.eI 11 j = ch0 j) →
    KS w S t 0 → 8 ≤ t → t + m.2.2 ≤ 250 → rg_ok kn S → (m.1 kn).1 = 0 →
    ((m.2.1 (rg S)).1 = 0 → ∀ w' S', KF w w' → KS w' S' (t + 1) 0 → (∀ s, s ≤ t → S' s = S s) → S' (t + 1) = (m.2.1 (rg S)).2 → HD z l d σ ad Q w' b) →
    (¬ (m.2.1 (rg S)).1 = 0 → ∀ w' S' t', KF w w' → KS w' S' t' (m.2.1 (rg S)).1 → (∀ s, s ≤ 8 → S' s = S s) → Q (.returned (some (.int (m.2.1 (rg S)).1))) (ov σ ad 21 w')) →
    HD z l d σ ad Q w a
theorem RepW.mono {m : Ex} {a b c0 c1 : Nat} {ko0 ko1 : Nat → Nat} {ar0 ar1 : Nat → Int64} {ch0 ch1 : Nat → Int32} (h : RepW m a b c0 c1 ko0 ar0 ch0) (h1 : ∀ j, a ≤ j → j < b → ko1 j = ko0 j ∧ ar1 j = ar0 j) (h2 : ∀ j, c0 ≤ j → j < c1 → ch1 j = ch0 j) : RepW m a b c0 c1 ko1 ar1 ch1 :=
  fun z l d σ ad Q op sg aO aS mO mS ko w len S t kn hp hb hj hc => h z l d σ ad Q op sg aO aS mO mS ko w len S t kn hp hb (fun j a1 a2 => ⟨(hj j a1 a2).1.trans (h1 j a1 a2).1, (hj j a1 a2).2.trans (h1 j a1 a2).2⟩) (fun j a1 a2 => (hc j a1 a2).trans (h2 j a1 a2))
def ex_int (n : Int64) : Ex := (fun _ => (0, 0), fun _ => (0, (0, n, [])), 1)
def ex_bool (n : Int64) : Ex := (fun _ => (0, 2), fun _ => (0, (2, n, [])), 1)
def ex_null : Ex := (fun _ => (0, 3), fun _ => (0, (3, 0, [])), 1)
def ex_text (c : List Int32) : Ex := (fun _ => (0, 1), fun _ => (0, (1, lN c.length, c)), 1)
def ex_reg (r : Nat) : Ex := (fun kn => (0, kn r), fun R => (0, R r), 1)
theorem va_up_lo {S : Nat → Va} {t : Nat} (v : Va) : ∀ s, s ≤ t → va_up S (t + 1) v s = S s := fun s hs => va_up_ne _ _ (by omega)
theorem rw_int {n : Int64} {a : Nat} {c0 c1 : Nat} {ko0 : Nat → Nat} {ar0 : Nat → Int64} {ch0 : Nat → Int32} (h1 : ko0 a = 1) (h2 : ar0 a = n) : RepW (ex_int n) a (a + 1) c0 c1 ko0 ar0 ch0 := by
  intro z l d σ ad Q op sg aO aS mO mS ko w len S t kn hp hb hj hc hS h8 ht hr hk ok er
  obtain ⟨q1, q2⟩ := hj a (Nat.le_refl _) (Nat.lt_succ_self _)
  exact ks_int hp hS h8 (show t < 250 from ht) (by omega) (q1.trans h1) (q2.trans h2) (fun w' hf hS' => ok rfl w' _ hf hS' (va_up_lo _) (va_up_self _ _ _))
theorem rw_bool {n : Int64} (hn : n = 0 ∨ n = 1) {a : Nat} {c0 c1 : Nat} {ko0 : Nat → Nat} {ar0 : Nat → Int64} {ch0 : Nat → Int32} (h1 : ko0 a = 3) (h2 : ar0 a = n) : RepW (ex_bool n) a (a + 1) c0 c1 ko0 ar0 ch0 := by
  intro z l d σ ad Q op sg aO aS mO mS ko w len S t kn hp hb hj hc hS h8 ht hr hk ok er
  obtain ⟨q1, q2⟩ := hj a (Nat.le_refl _) (Nat.lt_succ_self _)
  exact ks_boolc hp hS h8 (show t < 250 from ht) (by omega) (q1.trans h1) (q2.trans h2) hn (fun w' hf hS' => ok rfl w' _ hf hS' (va_up_lo _) (va_up_self _ _ _))
theorem rw_null {a : Nat} {c0 c1 : Nat} {ko0 : Nat → Nat} {ar0 : Nat → Int64} {ch0 : Nat → Int32} (h1 : ko0 a = 4) : RepW ex_null a (a + 1) c0 c1 ko0 ar0 ch0 := by
  intro z l d σ ad Q op sg aO aS mO mS ko w len S t kn hp hb hj hc hS h8 ht hr hk ok er
  obtain ⟨q1, q2⟩ := hj a (Nat.le_refl _) (Nat.lt_succ_self _)
  exact ks_null hp hS h8 (show t < 250 from ht) (by omega) (q1.trans h1) q2 (fun w' hf hS' => ok rfl w' _ hf hS' (va_up_lo _) (va_up_self _ _ _))
theorem rw_reg {r a : Nat} (hr8 : r < 8) {c0 c1 : Nat} {ko0 : Nat → Nat} {ar0 : Nat → Int64} {ch0 : Nat → Int32} (h1 : ko0 a = 5) (h2 : ar0 a = lN r) : RepW (ex_reg r) a (a + 1) c0 c1 ko0 ar0 ch0 := by
  intro z l d σ ad Q op sg aO aS mO mS ko w len S t kn hp hb hj hc hS h8 ht hr hk ok er
  obtain ⟨q1, q2⟩ := hj a (Nat.le_refl _) (Nat.lt_succ_self _)
  exact ks_reg hp hS h8 (show t < 250 from ht) (by omega) (q1.trans h1) hr8 (q2.trans h2) (fun w' hf hS' => ok rfl w' _ hf hS' (va_up_lo _) ((va_up_self _ _ _).trans (by show S r = rg S r; rw [rg, if_pos hr8])))
theorem rw_text {C : List Int32} {a hd : Nat} (hC : C.length ≤ 40) (hch : ∀ c ∈ C, ch_ok c) {c0 c1 : Nat} {ko0 : Nat → Nat} {ar0 : Nat → Int64} {ch0 : Nat → Int32} (h0 : c0 ≤ hd) (hc1 : hd + 1 + C.length ≤ c1) (hc2 : c1 ≤ 1000) (h1 : ko0 a = 2) (h2 : ar0 a = lN hd) (h3 : ch0 hd = nI C.length) (h4 : ∀ i, i < C.length → ch0 (hd + 1 + i) = C.getD i 0) : RepW (ex_text C) a (a + 1) c0 c1 ko0 ar0 ch0 := by
  intro z l d σ ad Q op sg aO aS mO mS ko w len S t kn hp hb hj hc hS h8 ht hr hk ok er
  obtain ⟨q1, q2⟩ := hj a (Nat.le_refl _) (Nat.lt_succ_self _)
  have hw : ∀ i, i < C.length → w.eI 11 (hd + 1 + i) = C.getD i 0 := fun i hi => (hc _ (by omega) (by omega)).trans (h4 i hi)
  have e : rowT (w.eI 11) (hd + 1) C.length = C := by
    refine List.ext_getElem (rowT_len _ _ _) (fun i a1 a2 => ?_)
    have := hw i a2
    simp [rowT]
    rw [this]
    simp [List.getD, a2]
  refine ks_text hp hS h8 (show t < 250 from ht) (by omega) (q1.trans h1) (q2.trans h2) (n := C.length) (by omega) hC ((hc hd h0 (by omega)).trans h3) (fun i hi => by rw [hw i hi]; exact hch _ (getD_mem hi)) (fun w' hf hS' => ok rfl w' _ hf hS' (va_up_lo _) ((va_up_self _ _ _).trans ?_))
  rw [e]
  rfl
