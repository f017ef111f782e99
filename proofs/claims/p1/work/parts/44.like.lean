/-! ===== LIKE ===== -/
def b2i (b : Bool) : Int32 := if b then 1 else 0
def sp_any (F : Nat → Bool) : Nat → Bool
  | 0 => F 0
  | k + 1 => F (k + 1) || sp_any F k
def sp_one (F : Nat → Bool) (c : Int32) (A : List Int32) : Nat → Bool
  | 0 => false
  | k + 1 => F k && (c == 95 || c == A.getD k 0)
def sp_lf (A : List Int32) (P : Nat → Int32) : Nat → Nat → Bool
  | 0 => fun k => k == 0
  | n + 1 => if P n = 37 then sp_any (sp_lf A P n) else sp_one (sp_lf A P n) (P n) A
def sp_like (A B : List Int32) : Bool := sp_lf A (fun i => B.getD i 0) B.length A.length
theorem b2i_0 {b : Bool} : b2i b = 0 ↔ b = false := by cases b <;> decide
theorem b2i_n {b : Bool} : ¬ b2i b = 0 ↔ b = true := by cases b <;> decide
theorem nb_0 : vp_nar .boolean 0 = b2i false := by decide +kernel
theorem nb_1 : vp_nar .boolean 1 = b2i true := by decide +kernel
section ClLike
variable {z : State} {l : Launch} {d : Nat} {σ : Hp} {ad : Nat → Nat} {w : Wd} {S : Nat → Va} {Q : Outcome → Hp → Prop}
theorem cl_any_loop {n : Nat} {F : Nat → Bool} (hc : CW z σ ad) (hl : CLk w ad) (hn : n ≤ 40) (k : ∀ g, (∀ i, i ≤ n → g i = b2i (sp_any F i)) → Q (.returned none) (ov σ ad 21 (w.rowI 7 g))) :
    ∀ m j f, j + 1 + m = n + 1 → (∀ i, i ≤ j → f i = b2i (sp_any F i)) → (∀ i, j < i → i ≤ n → f i = b2i (F i)) → Go z l mt_L_coverAnyMore (d + 9) 2 [.ref (ad 3), .int (nI n), .int (nI (j + 1))] [] (ov σ ad 21 (w.rowI 7 f)) Q := by
  intro m
  induction m with
  | zero =>
    intro j f hj h1 h2
    have q : nI n < nI (j + 1) := nI_lt (by omega) (by omega)
    exact cs_L_coverAnyMore_2 (d := d) hc ((sf_7 w f).link hl) (fun _ => k f (fun i hi => h1 i (by omega))) (fun h => absurd q h) (fun h => absurd q h) (fun h => absurd q h) (fun h => absurd q h) (fun h => absurd q h)
  | succ m ih =>
    intro j f hj h1 h2
    have q : ¬ nI n < nI (j + 1) := nI_nlt (by omega) (by omega)
    have e1 : (nI (j + 1)).toNatClampNeg = j + 1 := nI_clamp (by omega)
    have e2 : nI (j + 1) - 1 = nI j := nI_pred j
    have e3 : (nI j).toNatClampNeg = j := nI_clamp (by omega)
    have f1 := h2 (j + 1) (by omega) (by omega)
    have f0 := h1 j (Nat.le_refl _)
    have key : ∀ x : Int32, x = b2i (sp_any F (j + 1)) → Go z l mt_L_coverAnyMore (d + 9) 2 [.ref (ad 3), .int (nI n), .int (nI (j + 1) + 1)] [] (ov σ ad 21 ((w.rowI 7 f).rowI 7 (va_up f (nI (j + 1)).toNatClampNeg x))) Q := by
      intro x hx
      rw [e1, Wd.rowI_rowI, nI_1]
      refine ih (j + 1) _ (by omega) (fun i hi => ?_) (fun i a b => (va_up_ne _ _ (by omega)).trans (h2 i (by omega) b))
      by_cases hij : i = j + 1
      · rw [hij, va_up_self, hx]
      · exact (va_up_ne _ _ hij).trans (h1 i (by omega))
    refine cs_L_coverAnyMore_2 (d := d) hc ((sf_7 w f).link hl) (fun h => absurd h q) (fun _ => vp_in_nI (by omega) (by omega)) (fun _ a => key _ ?_) (fun _ _ => by rw [e2]; exact vp_in_nI (by omega) (by omega)) (fun _ a b => key _ ?_) (fun _ a b => key _ ?_)
    · have a' : ¬ f (nI (j + 1)).toNatClampNeg = 0 := a
      rw [e1, f1, b2i_n] at a'
      rw [nb_1, sp_any, a', Bool.true_or]
    · have a' : f (nI (j + 1)).toNatClampNeg = 0 := a
      have b' : f (nI (j + 1) - 1).toNatClampNeg = 0 := b
      rw [e1, f1, b2i_0] at a'
      rw [e2, e3, f0, b2i_0] at b'
      rw [nb_0, sp_any, a', b', Bool.or_self]
    · have b' : ¬ f (nI (j + 1) - 1).toNatClampNeg = 0 := b
      rw [e2, e3, f0, b2i_n] at b'
      rw [nb_1, sp_any, b', Bool.or_true]
theorem cl_any {n : Nat} {F : Nat → Bool} {f : Nat → Int32} (hc : CW z σ ad) (hl : CLk w ad) (hn : n ≤ 40) (hf : ∀ i, i ≤ n → f i = b2i (F i)) (k : ∀ g, (∀ i, i ≤ n → g i = b2i (sp_any F i)) → Q (.returned none) (ov σ ad 21 (w.rowI 7 g))) :
    Go z l mt_L_coverAnyMore (d + 9) 0 [.ref (ad 3), .int (nI n), .retAddr 0] [] (ov σ ad 21 (w.rowI 7 f)) Q :=
  cs_L_coverAnyMore (d := d) hc (cl_any_loop (F := F) hc hl hn k n 0 f (by omega) (fun i hi => (show i = 0 from Nat.le_zero.mp hi) ▸ hf 0 (Nat.zero_le _)) (fun i _ b => hf i b))
theorem cl_one_loop {s n : Nat} {c : Int32} {F : Nat → Bool} {A : List Int32} (hc : CW z σ ad) (hl : CLk w ad) (hs : s < 251) (hn : n = A.length) (hA : A.length ≤ 40) (h6 : ∀ i, i < A.length → w.eI 6 (s * 40 + i) = A.getD i 0) (k : ∀ g, (∀ i, i ≤ n → g i = b2i (sp_one F c A i)) → Q (.returned none) (ov σ ad 21 (w.rowI 7 g))) :
    ∀ j f, j ≤ n → (∀ i, i ≤ j → f i = b2i (F i)) → (∀ i, j < i → i ≤ n → f i = b2i (sp_one F c A i)) → Go z l mt_L_coverOneMore (d + 9) 3 [.ref (ad 3), .int c, .int (nI s), .int (nI n), .int (nI j), .retAddr 0] [] (ov σ ad 21 (w.rowI 7 f)) Q := by
  intro j
  induction j with
  | zero =>
    intro f hj h1 h2
    have q : nI 0 ≤ 0 := by decide
    refine cs_L_coverOneMore_3 (d := d) hc ((sf_7 w f).link hl) (fun _ => ?_) (fun h => absurd q h) (fun h => absurd q h) (fun h => absurd q h) (fun h => absurd q h) (fun h => absurd q h) (fun h => absurd q h) (fun h => absurd q h) (fun h => absurd q h) (fun h => absurd q h) (fun h => absurd q h)
    rw [Wd.rowI_rowI, nb_0]
    refine k _ (fun i hi => ?_)
    by_cases h0 : i = 0
    · subst h0; exact va_up_self _ _ _
    · exact (va_up_ne _ _ (show i ≠ (0 : Int32).toNatClampNeg from h0)).trans (h2 i (by omega) hi)
  | succ j ih =>
    intro f hj h1 h2
    have q : ¬ nI (j + 1) ≤ 0 := nI_nle (by omega) (by omega)
    have e1 : (nI (j + 1)).toNatClampNeg = j + 1 := nI_clamp (by omega)
    have e2 : nI (j + 1) - 1 = nI j := nI_pred j
    have e3 : (nI j).toNatClampNeg = j := nI_clamp (by omega)
    have e4 : nI s * 40 + nI (j + 1) - 1 = nI (s * 40 + j) := by rw [t40, nI_add, show s * 40 + (j + 1) = s * 40 + j + 1 from rfl, nI_pred]
    have e5 : (nI (s * 40 + j)).toNatClampNeg = s * 40 + j := nI_clamp (by omega)
    have f0 := h1 j (by omega)
    have g6 := h6 j (by omega)
    have i41 : vp_in (nI (j + 1)) 41 := vp_in_nI (by omega) (by omega)
    have key : ∀ (x : Int32) (u : Value), x = b2i (sp_one F c A (j + 1)) → Go z l mt_L_coverOneMore (d + 9) 3 [.ref (ad 3), .int c, .int (nI s), .int (nI n), .int (nI (j + 1) + (-1)), u] [] (ov σ ad 21 ((w.rowI 7 f).rowI 7 (va_up f (nI (j + 1)).toNatClampNeg x))) Q := by
      intro x u hx
      rw [e1, Wd.rowI_rowI, pk_m1]
      refine go_drop 5 (ih _ (by omega) (fun i hi => (va_up_ne _ _ (by omega)).trans (h1 i (by omega))) (fun i a b => ?_))
      by_cases hij : i = j + 1
      · rw [hij, va_up_self, hx]
      · exact (va_up_ne _ _ hij).trans (h2 i (by omega) b)
    refine cs_L_coverOneMore_3 (d := d) hc ((sf_7 w f).link hl) (fun h => absurd h q) (fun _ => by rw [e4]; exact vp_in_nI (by omega) (by omega)) (fun _ => by rw [e2]; exact vp_in_nI (by omega) (by omega)) (fun _ _ => i41) (fun _ a => key _ _ ?_) (fun _ _ _ => i41) (fun _ a b => key _ _ ?_) (fun _ _ _ _ => i41) (fun _ a b cc => key _ _ ?_) (fun _ _ _ _ => i41) (fun _ a b cc => key _ _ ?_)
    · have a' : f (nI (j + 1) - 1).toNatClampNeg = 0 := a
      rw [e2, e3, f0, b2i_0] at a'
      rw [nb_0, sp_one, a', Bool.false_and]
    · have a' : ¬ f (nI (j + 1) - 1).toNatClampNeg = 0 := a
      rw [e2, e3, f0, b2i_n] at a'
      rw [nb_1, sp_one, a', b]
      rfl
    · have a' : ¬ f (nI (j + 1) - 1).toNatClampNeg = 0 := a
      have cc' : ¬ c = w.eI 6 (nI s * 40 + nI (j + 1) - 1).toNatClampNeg := cc
      rw [e2, e3, f0, b2i_n] at a'
      rw [e4, e5, g6] at cc'
      rw [nb_0, sp_one, a', show (c == 95) = false from beq_eq_false_iff_ne.mpr b, show (c == A.getD j 0) = false from beq_eq_false_iff_ne.mpr cc']
      rfl
    · have a' : ¬ f (nI (j + 1) - 1).toNatClampNeg = 0 := a
      have cc' : c = w.eI 6 (nI s * 40 + nI (j + 1) - 1).toNatClampNeg := cc
      rw [e2, e3, f0, b2i_n] at a'
      rw [e4, e5, g6] at cc'
      rw [nb_1, sp_one, a', show (c == A.getD j 0) = true from beq_iff_eq.mpr cc', Bool.or_true]
      rfl
theorem cl_one {s n : Nat} {c : Int32} {F : Nat → Bool} {A : List Int32} {f : Nat → Int32} (hc : CW z σ ad) (hl : CLk w ad) (hs : s < 251) (hn : n = A.length) (hA : A.length ≤ 40) (h6 : ∀ i, i < A.length → w.eI 6 (s * 40 + i) = A.getD i 0) (hf : ∀ i, i ≤ n → f i = b2i (F i)) (k : ∀ g, (∀ i, i ≤ n → g i = b2i (sp_one F c A i)) → Q (.returned none) (ov σ ad 21 (w.rowI 7 g))) :
    Go z l mt_L_coverOneMore (d + 9) 0 [.ref (ad 3), .int c, .int (nI s), .int (nI n), .retAddr 0, .retAddr 0] [] (ov σ ad 21 (w.rowI 7 f)) Q :=
  cs_L_coverOneMore (d := d) hc (cl_one_loop (F := F) hc hl hs hn hA h6 k n f (Nat.le_refl _) hf (fun i a b => absurd a (by omega)))
theorem cl_like_pat {s t : Nat} {A B : List Int32} (hc : CW z σ ad) (hl : CLk w ad) (hs : s < 251) (ht : t < 251) (hA : A.length ≤ 40) (hB : B.length ≤ 40) (h6 : ∀ i, i < A.length → w.eI 6 (s * 40 + i) = A.getD i 0) (g6 : ∀ i, i < B.length → w.eI 6 (t * 40 + i) = B.getD i 0) (g5 : w.eJ 5 t = lN B.length)
    (k : ∀ g, Q (.returned (some (.int (b2i (sp_like A B))))) (ov σ ad 21 (w.rowI 7 g))) :
    ∀ m j f, j + m = B.length → (∀ i, i ≤ A.length → f i = b2i (sp_lf A (fun i => B.getD i 0) j i)) → Go z l mt_L_isLike (d + 10) 50 [.ref (ad 3), .int (nI s), .int (nI t), .int (nI A.length), .int (nI (t * 40)), .int (nI (t * 40 + j))] [] (ov σ ad 21 (w.rowI 7 f)) Q := by
  intro m
  have et : (nI t).toNatClampNeg = t := nI_clamp (by omega)
  have eA : (nI A.length).toNatClampNeg = A.length := nI_clamp (by omega)
  have ee : ∀ f, nI (t * 40) + ((w.rowI 7 f).eJ 5 (nI t).toNatClampNeg).toInt32 = nI (t * 40 + B.length) := fun f => by
    rw [et]
    show _ + (w.eJ 5 t).toInt32 = _
    rw [g5, lN_i, nI_add]
  induction m with
  | zero =>
    intro j f hj h1
    have q : nI (t * 40) + ((w.rowI 7 f).eJ 5 (nI t).toNatClampNeg).toInt32 ≤ nI (t * 40 + j) := by rw [ee]; exact nI_le (by omega) (by omega)
    have hj' : j = B.length := by omega
    have hfv : f (nI A.length).toNatClampNeg = b2i (sp_like A B) := by rw [eA, h1 _ (Nat.le_refl _), hj']; rfl
    refine cs_L_isLike_50 (d := d + 1) hc ((sf_7 w f).link hl) (vp_in_nI ht (by omega)) (fun _ => vp_in_nI (by omega) (by omega)) (fun _ => ?_) (fun _ => ?_) (fun h => absurd q h) (fun h => absurd q h) (fun h => absurd q h)
    · show narrow .boolean (.int (f (nI A.length).toNatClampNeg)) = .int (f (nI A.length).toNatClampNeg)
      rw [hfv]
      cases sp_like A B <;> decide +kernel
    · show Q (.returned (some (.int (f (nI A.length).toNatClampNeg)))) _
      rw [hfv]
      exact k f
  | succ m ih =>
    intro j f hj h1
    have q : ¬ nI (t * 40) + ((w.rowI 7 f).eJ 5 (nI t).toNatClampNeg).toInt32 ≤ nI (t * 40 + j) := by rw [ee]; exact nI_ge (by omega) (by omega)
    have e5 : (nI (t * 40 + j)).toNatClampNeg = t * 40 + j := nI_clamp (by omega)
    have gj := g6 j (by omega)
    have nxt := fun g hg => ih (j + 1) g (by omega) hg
    rw [show t * 40 + (j + 1) = t * 40 + j + 1 from rfl, nI_succ] at nxt
    refine cs_L_isLike_50 (d := d + 1) hc ((sf_7 w f).link hl) (vp_in_nI ht (by omega)) (fun h => absurd h q) (fun h => absurd h q) (fun h => absurd h q) (fun _ => vp_in_nI (by omega) (by omega)) (fun _ h => ?_) (fun _ h => ?_)
    · have h' : ¬ w.eI 6 (nI (t * 40 + j)).toNatClampNeg = 37 := h
      show Go z l mt_L_coverOneMore (d + 9) 0 [.ref (ad 3), .int (w.eI 6 (nI (t * 40 + j)).toNatClampNeg), .int (nI s), .int (nI A.length), .retAddr 0, .retAddr 0] [] (ov σ ad 21 (w.rowI 7 f)) _
      rw [e5, gj] at h' ⊢
      refine cl_one (F := sp_lf A (fun i => B.getD i 0) j) hc hl hs rfl hA h6 h1 (fun g hg _ => gj_nextV (cs_L_isLike_98 (d := d + 1) hc (nxt g (fun i hi => ?_))))
      rw [hg i hi, sp_lf, if_neg h']
    · have h' : w.eI 6 (nI (t * 40 + j)).toNatClampNeg = 37 := h
      rw [e5, gj] at h'
      refine cl_any (F := sp_lf A (fun i => B.getD i 0) j) hc hl hA h1 (fun g hg _ => gj_nextV (cs_L_isLike_82 (d := d + 1) hc (nxt g (fun i hi => ?_))))
      rw [hg i hi, sp_lf, if_pos h']
theorem cl_like_init {s t : Nat} {A : List Int32} (hc : CW z σ ad) (hl : CLk w ad) (hA : A.length ≤ 40) (ht : t < 251)
    (k : ∀ g, (∀ i, i ≤ A.length → g i = b2i (i == 0)) → Go z l mt_L_isLike (d + 10) 50 [.ref (ad 3), .int (nI s), .int (nI t), .int (nI A.length), .int (nI (t * 40)), .int (nI (t * 40))] [] (ov σ ad 21 (w.rowI 7 g)) Q) :
    ∀ m j f, j + m = A.length + 1 → (∀ i, i < j → f i = b2i (i == 0)) → Go z l mt_L_isLike (d + 10) 11 [.ref (ad 3), .int (nI s), .int (nI t), .int (nI A.length), .int (nI j), .retAddr 0] [] (ov σ ad 21 (w.rowI 7 f)) Q := by
  intro m
  induction m with
  | zero =>
    intro j f hj h1
    have q : nI A.length < nI j := nI_lt (by omega) (by omega)
    refine cs_L_isLike_11 (d := d + 1) hc ((sf_7 w f).link hl) (fun _ => ?_) (fun h => absurd q h) (fun h => absurd q h) (fun h => absurd q h) (fun h => absurd q h)
    rw [t40]
    exact k f (fun i hi => h1 i (by omega))
  | succ m ih =>
    intro j f hj h1
    have q : ¬ nI A.length < nI j := nI_nlt (by omega) (by omega)
    have e1 : (nI j).toNatClampNeg = j := nI_clamp (by omega)
    have key : ∀ x : Int32, x = b2i (j == 0) → Go z l mt_L_isLike (d + 10) 11 [.ref (ad 3), .int (nI s), .int (nI t), .int (nI A.length), .int (nI j + 1), .retAddr 0] [] (ov σ ad 21 ((w.rowI 7 f).rowI 7 (va_up f (nI j).toNatClampNeg x))) Q := by
      intro x hx
      rw [e1, Wd.rowI_rowI, nI_1]
      refine ih (j + 1) _ (by omega) (fun i hi => ?_)
      by_cases hij : i = j
      · rw [hij, va_up_self, hx]
      · exact (va_up_ne _ _ hij).trans (h1 i (by omega))
    refine cs_L_isLike_11 (d := d + 1) hc ((sf_7 w f).link hl) (fun h => absurd h q) (fun _ _ => vp_in_nI (by omega) (by omega)) (fun _ a => key _ ?_) (fun _ _ => vp_in_nI (by omega) (by omega)) (fun _ a => key _ ?_)
    · have : j ≠ 0 := fun h => a (by rw [h]; rfl)
      rw [nb_0, show (j == 0) = false from beq_eq_false_iff_ne.mpr this]
    · have : j = 0 := (nI_eq (by omega) (by omega)).mp (a.trans nI_0.symm)
      rw [nb_1, this]
      rfl
theorem cl_like {s t : Nat} (hc : CW z σ ad) (hl : CLk w ad) (hS : SLS w S) (hs : s < 251) (ht : t < 251) (k1 : (S s).1 = 1) (k2 : (S t).1 = 1)
    (k : ∀ w', SF w w' → SLS w' S → Q (.returned (some (.int (b2i (sp_like (S s).2.2 (S t).2.2))))) (ov σ ad 21 w')) :
    Go z l mt_L_isLike (d + 10) 0 [.ref (ad 3), .int (nI s), .int (nI t), .retAddr 0, .retAddr 0, .retAddr 0] [] (ov σ ad 21 w) Q := by
  obtain ⟨⟨a1, a2, a3⟩, a4⟩ := hS s hs
  obtain ⟨⟨b1, b2, b3⟩, b4⟩ := hS t ht
  have es : (nI s).toNatClampNeg = s := nI_clamp (by omega)
  refine cs_L_isLike (d := d + 1) hc hl (vp_in_nI hs (by omega)) ?_
  rw [es, a2, (a4.text k1).1, lN_i]
  have ew : w = w.rowI 7 (w.eI 7) := by
    refine wd_ext rfl rfl rfl ?_ rfl rfl
    exact (up21_self w.eI 7).symm
  have := cl_like_init (d := d) (l := l) (s := s) (t := t) (A := (S s).2.2) (Q := Q) hc hl a4.len ht (fun g hg => by
    have := cl_like_pat (d := d) (l := l) (Q := Q) hc hl hs ht a4.len b4.len a3 b3 (b2.trans (b4.text k2).1) (fun g9 => k _ (sf_7 w g9) hS) (S t).2.2.length 0 g (Nat.zero_add _) hg
    exact this) ((S s).2.2.length + 1) 0 (w.eI 7) (Nat.zero_add _) (fun i hi => absurd hi (Nat.not_lt_zero _))
  rw [← ew] at this
  exact this
end ClLike
