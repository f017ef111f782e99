/-! ===== the reference's values; its scanner: quoted texts ===== -/
def mty (k : Int32) : Int32 := if k = 0 then 20 else if k = 1 then 25 else if k = 2 then 16 else 0
/-- the reference's value v holds x -/
def VM (σ : Hp) (am : Nat → Nat) (v : Nat) (x : Va) : Prop := σ.tag v = 10 ∧ σ.I 70 v = mty x.1 ∧ ((x.1 = 0 ∨ x.1 = 2) → σ.J 71 v = x.2.1) ∧ ∃ m, m ≤ 40 ∧ σ.I 72 v = nI m ∧ ∃ t, σ.A 73 v = some t ∧ σ.tag t = 21 ∧ mx am t ∧ σ.len t = 40 ∧ (x.1 = 1 → m = x.2.2.length ∧ ∀ i, i < m → σ.eI t i = x.2.2.getD i 0)
/-- a text in the making -/
def QV (σ : Hp) (b t : Nat) (cs : List Int32) : Prop := σ.tag b = 10 ∧ σ.I 70 b = 25 ∧ σ.I 72 b = nI cs.length ∧ cs.length ≤ 40 ∧ σ.A 73 b = some t ∧ σ.tag t = 21 ∧ σ.len t = 40 ∧ ∀ i, i < cs.length → σ.eI t i = cs.getD i 0
theorem QV.vm {σ : Hp} {am : Nat → Nat} {b t : Nat} {cs : List Int32} (h : QV σ b t cs) (ht : mx am t) : VM σ am b (1, lN cs.length, cs) :=
  ⟨h.1, h.2.1, fun q => q.elim (fun q => absurd (show (1 : Int32) = 0 from q) (by decide)) (fun q => absurd (show (1 : Int32) = 2 from q) (by decide)), cs.length, h.2.2.2.1, h.2.2.1, t, h.2.2.2.2.1, h.2.2.2.2.2.1, ht, h.2.2.2.2.2.2.1, fun _ => ⟨rfl, h.2.2.2.2.2.2.2⟩⟩
theorem alb_app {x y : List Int32} : sc_alb (x ++ y) = (sc_alb x && sc_alb y) := by simp [sc_alb]
section MQuote
variable {z : State} {l : Launch} {d : Nat} {am : Nat → Nat} {Q : Outcome → Hp → Prop} {T : Nat → Int32} {L sa b t : Nat}
/-- a character is put behind a text -/
theorem QV.put {σ : Hp} {cs : List Int32} {j : Nat} (h : QV σ b t cs) (hl : cs.length < 40) (hj : j ≤ 127) : QV ((σ.rowI t (va_up (σ.eI t) ((σ.I 72 b).toNatClampNeg) (vp_nar .byte (nI j).toInt8.toInt32))).setI 72 b (σ.I 72 b + 1)) b t (cs ++ [nI j]) := by
  obtain ⟨h1, h2, h3, h4, h5, h6, h7, h8⟩ := h
  have ec : (σ.I 72 b).toNatClampNeg = cs.length := by rw [h3]; exact nI_clamp (by omega)
  refine ⟨h1, ?_, ?_, by rw [List.length_append]; exact hl, h5, h6, h7, fun i hi => ?_⟩
  · exact (Hp.sI_nf _ _ _ _ (by decide)).trans h2
  · rw [List.length_append, Hp.sI, h3]
    exact nI_1 _
  · rw [List.length_append] at hi
    have hi' : i < cs.length + 1 := hi
    show (σ.rowI t (va_up (σ.eI t) ((σ.I 72 b).toNatClampNeg) (vp_nar .byte (nI j).toInt8.toInt32))).eI t i = _
    rw [Hp.rI, ec, nar_b hj]
    by_cases e : i = cs.length
    · subst e
      rw [va_up_self, gD_last]
    · rw [va_up_ne _ _ e, gD_app (by omega)]
      exact h8 i (by omega)
abbrev qgood (T : Nat → Int32) (L n e : Nat) (cs : List Int32) : Prop := (sc_quote T L n e).1 = true ∧ sc_alb (sc_quote T L n e).2.2 = true ∧ cs.length + (sc_quote T L n e).2.2.length ≤ 40
theorem mo_quo (htm : mx am t) (hbz : z.heap.size ≤ b) (htz : z.heap.size ≤ t) (hsb : sa ≠ b) (hst : sa ≠ t) : ∀ (n e : Nat) (σ : Hp) (w : Wd) (cs : List Int32) (u : Value), PM z σ am w T L sa → L ≤ e + n → e ≤ L → w.I 0 46 = nI e → w.I 0 44 = 4 → w.A 0 49 = some b → QV σ b t cs →
    (∀ σ' w', PM z σ' am w' T L sa → Fm am (fun a => a = b ∨ a = t) σ σ' → SS w w' → w'.I 0 45 = w.I 0 45 → σ'.nx = σ.nx → σ'.sl = σ.sl → (qgood T L n e cs → w'.I 0 44 = 4 ∧ w'.I 0 46 = nI (sc_quote T L n e).2.1 ∧ w'.A 0 49 = some b ∧ QV σ' b t (cs ++ (sc_quote T L n e).2.2)) → (¬ qgood T L n e cs → w'.I 0 44 = 7) → Q (.returned none) (ov σ' am 7 w')) →
    Go z l mt_M_quoted (d + 10) 35 [.ref (am 0), u] [] (ov σ am 7 w) Q := by
  intro n
  -- what isn't a character
  have bad : ∀ (n e : Nat) (σ : Hp) (w : Wd) (cs : List Int32) (u : Value), PM z σ am w T L sa → e ≤ L → w.I 0 46 = nI e → QV σ b t cs → ¬ (e < L ∧ sc_chr (T e)) → ¬ qgood T L n e cs →
      (∀ σ' w', PM z σ' am w' T L sa → Fm am (fun a => a = b ∨ a = t) σ σ' → SS w w' → w'.I 0 45 = w.I 0 45 → σ'.nx = σ.nx → σ'.sl = σ.sl → (qgood T L n e cs → w'.I 0 44 = 4 ∧ w'.I 0 46 = nI (sc_quote T L n e).2.1 ∧ w'.A 0 49 = some b ∧ QV σ' b t (cs ++ (sc_quote T L n e).2.2)) → (¬ qgood T L n e cs → w'.I 0 44 = 7) → Q (.returned none) (ov σ' am 7 w')) →
      Go z l mt_M_quoted (d + 10) 35 [.ref (am 0), u] [] (ov σ am 7 w) Q := by
    intro n e σ w cs u hP he h46 hV hno hbad k
    have hL := hP.2.2.2.2.2.1
    have hT := hP.2.2.2.2.2.2.1
    refine fgt2 (cm_M_quoted_35 (d := d + 1) hP.1 ?_)
    rw [h46]
    refine mo_at (d := d) hP (by omega) (fun _ => gj_nextI ?_)
    have nc : ¬ sc_chr (atv T L e) := fun q => hno ((atv_chr hT).mp q)
    have S : SS w (w.setI 0 44 7) := SS.setI _ _ (by decide) (by decide)
    have kk : Q (.returned none) (ov σ am 7 (w.setI 0 44 7)) := k σ _ (hP.w S) (Fm.rfl' _ _ _) S rfl rfl rfl (fun q => absurd q hbad) (fun _ => rfl)
    refine cm_M_quoted_43 (d := d + 1) (b1 := b) (b4 := t) hP.1 hV.1 htm hV.2.2.2.2.2.1 htz hbz (fun _ => kk) (fun a c => absurd ⟨Int32.not_lt.mp a, c⟩ nc) (fun a c => absurd ⟨Int32.not_lt.mp a, c⟩ nc) (fun a c => absurd ⟨Int32.not_lt.mp a, c⟩ nc) (fun a c => absurd ⟨Int32.not_lt.mp a, c⟩ nc) (fun a c => absurd ⟨Int32.not_lt.mp a, c⟩ nc) (fun a c => absurd ⟨Int32.not_lt.mp a, c⟩ nc) (fun _ _ => kk)
  induction n with
  | zero =>
    intro e σ w cs u hP hn he h46 h44 h49 hV k
    exact bad 0 e σ w cs u hP he h46 hV (fun q => by omega) (fun q => absurd q.1 (by rw [sc_quote]; exact Bool.false_ne_true)) k
  | succ n ih =>
    intro e σ w cs u hP hn he h46 h44 h49 hV k
    have hL := hP.2.2.2.2.2.1
    have hT := hP.2.2.2.2.2.2.1
    by_cases hlp : L ≤ e
    · exact bad (n + 1) e σ w cs u hP he h46 hV (fun q => by omega) (fun q => absurd q.1 (by rw [sc_quote, if_pos hlp]; exact Bool.false_ne_true)) k
    by_cases hch : sc_chr (T e)
    · have ev : atv T L e = T e := atv_val hT (by omega) hch
      obtain ⟨j, hj, ej⟩ : ∃ j, j ≤ 127 ∧ T e = nI j := by
        rcases isB_cases (hT e) with ⟨j, hj, q⟩ | ⟨j, hj1, hj2, q⟩
        · exact ⟨j, hj, q⟩
        · rw [q] at hch
          exact absurd hch ((by decide +kernel : ∀ j, j < 129 → 1 ≤ j → ¬ sc_chr (-nI j)) j (by omega) hj1)
      have n32 : ¬ T e < 32 := Int32.not_lt.mpr hch.1
      have hV' := hV
      obtain ⟨v1, v2, v3, v4, v5, v6, v7, v8⟩ := hV'
      have c40 : σ.I 72 b = 40 ↔ cs.length = 40 := by
        rw [v3]
        exact nI_eq (b := 40) (by omega) (by decide)
      have e1 : nI e + 1 = nI (e + 1) := nI_1 e
      refine fgt2 (cm_M_quoted_35 (d := d + 1) hP.1 ?_)
      rw [h46]
      refine mo_at (d := d) hP (by omega) (fun _ => gj_nextI ?_)
      rw [ev]
      -- one more character, or too many
      have more : ∀ (e2 : Nat) (w2 : Wd), SS w w2 → w2.I 0 45 = w.I 0 45 → w2.I 0 44 = 4 → w2.A 0 49 = some b → e < e2 → e2 ≤ L → sc_quote T L (n + 1) e = ((sc_quote T L n e2).1, (sc_quote T L n e2).2.1, T e :: (sc_quote T L n e2).2.2) → w2.I 0 46 + 1 = nI e2 →
          (¬ cs.length = 40 → ∀ u9, Go z l mt_M_quoted (d + 10) 35 [.ref (am 0), u9] [] (ov ((σ.rowI t (va_up (σ.eI t) ((σ.I 72 b).toNatClampNeg) (vp_nar .byte (T e).toInt8.toInt32))).setI 72 b (σ.I 72 b + 1)) am 7 (w2.setI 0 46 (w2.I 0 46 + 1))) Q) ∧ (cs.length = 40 → Q (.returned none) (ov σ am 7 ((w2.setI 0 46 (w2.I 0 46 + 1)).setI 0 44 7))) := by
        intro e2 w2 S2 i45 i44 i49 he2 he2L eq i46
        have S3 : SS w (w2.setI 0 46 (w2.I 0 46 + 1)) := S2.trans (SS.setI _ _ (by decide) (by decide))
        have ga : qgood T L (n + 1) e cs ↔ qgood T L n e2 (cs ++ [T e]) := by
          unfold qgood
          rw [eq, List.length_append]
          show _ ∧ sc_alb (T e :: (sc_quote T L n e2).2.2) = true ∧ cs.length + ((sc_quote T L n e2).2.2.length + 1) ≤ 40 ↔ _ ∧ _ ∧ cs.length + 1 + _ ≤ 40
          rw [alb_cons, decide_eq_true hch, Bool.true_and]
          constructor
          · rintro ⟨a, b9, c9⟩; exact ⟨a, b9, by omega⟩
          · rintro ⟨a, b9, c9⟩; exact ⟨a, b9, by omega⟩
        refine ⟨fun hl u9 => ?_, fun hl => ?_⟩
        · have V2 : QV ((σ.rowI t (va_up (σ.eI t) ((σ.I 72 b).toNatClampNeg) (vp_nar .byte (T e).toInt8.toInt32))).setI 72 b (σ.I 72 b + 1)) b t (cs ++ [T e]) := by
            rw [ej]
            exact hV.put (by omega) hj
          have F2 : Fm am (fun a => a = b ∨ a = t) σ ((σ.rowI t (va_up (σ.eI t) ((σ.I 72 b).toNatClampNeg) (vp_nar .byte (T e).toInt8.toInt32))).setI 72 b (σ.I 72 b + 1)) := ⟨Nat.le_refl _, Nat.le_refl _, fun a _ _ hx => (SameC.rowI (fun q => hx (Or.inr q))).trans (SameC.setI (fun q => hx (Or.inl q)))⟩
          have P2 : PM z ((σ.rowI t (va_up (σ.eI t) ((σ.I 72 b).toNatClampNeg) (vp_nar .byte (T e).toInt8.toInt32))).setI 72 b (σ.I 72 b + 1)) am (w2.setI 0 46 (w2.I 0 46 + 1)) T L sa := hP.mv hP.1 F2 (fun q => q.elim hsb hst) (fun a q => q.elim (fun q => q ▸ hbz) (fun q => q ▸ htz)) S3.ws
          refine ih e2 _ _ (cs ++ [T e]) u9 P2 (by omega) he2L i46 i44 i49 V2 (fun σ' w' p f s i5 n9 s9 g1 g2 => k σ' w' p (F2.trans f (fun _ _ q => q) (fun _ _ q => q)) (S3.trans s) (i5.trans i45) n9 s9 (fun q => ?_) (fun q => g2 (fun r => q (ga.mpr r))))
          obtain ⟨a1, a2, a3, a4⟩ := g1 (ga.mp q)
          refine ⟨a1, by rw [eq]; exact a2, a3, ?_⟩
          rw [eq]
          rw [List.append_assoc] at a4
          exact a4
        · have nb : ¬ qgood T L (n + 1) e cs := fun q => by
            have q3 := q.2.2
            rw [eq] at q3
            have : ((sc_quote T L n e2).1, (sc_quote T L n e2).2.1, T e :: (sc_quote T L n e2).2.2).2.2.length = (sc_quote T L n e2).2.2.length + 1 := rfl
            omega
          exact k σ _ (hP.w (S3.trans (SS.setI _ _ (by decide) (by decide)))) (Fm.rfl' _ _ _) (S3.trans (SS.setI _ _ (by decide) (by decide))) i45 rfl rfl (fun q => absurd q nb) (fun _ => rfl)
      have vpi : ¬ cs.length = 40 → vp_in (σ.I 72 b) (σ.len t) := fun q => by rw [v3, v7]; exact vp_in_nI (by omega) (by decide)
      by_cases h39 : T e = 39
      · refine cm_M_quoted_43 (d := d + 1) (b1 := b) (b4 := t) hP.1 v1 htm v6 htz hbz (fun q => absurd q n32) (fun _ _ q => absurd h39 q) (fun _ _ q => absurd h39 q) (fun _ _ q => absurd h39 q) (fun _ _ q => absurd h39 q) (fun _ _ q => absurd h39 q) (fun _ _ _ => ?_) (fun _ q => absurd hch.2 q)
        have S1 : SS w (w.setI 0 46 (w.I 0 46 + 1)) := SS.setI _ _ (by decide) (by decide)
        rw [h46, e1]
        have S1' : SS w (w.setI 0 46 (nI (e + 1))) := SS.setI _ _ (by decide) (by decide)
        refine mo_at (d := d) (hP.w S1') (by omega) (fun _ => gj_nextI ?_)
        by_cases hd : e + 1 < L ∧ T (e + 1) = 39
        · have ea : atv T L (e + 1) = 39 := (atv_eq (c := 39) hT (by decide)).mpr hd
          have eq : sc_quote T L (n + 1) e = ((sc_quote T L n (e + 2)).1, (sc_quote T L n (e + 2)).2.1, T e :: (sc_quote T L n (e + 2)).2.2) := by
            rw [sc_quote, if_neg hlp, if_neg (fun q => q.2 hd), if_pos h39]
          obtain ⟨m1, m2⟩ := more (e + 2) (w.setI 0 46 (nI (e + 1))) S1' rfl h44 h49 (by omega) (by omega) eq (nI_1 (e + 1))
          refine cm_M_quoted_87 (d := d + 1) (b1 := b) (b4 := t) hP.1 v1 htm v6 htz hbz (fun _ => h49) (fun _ _ => v5) (fun _ q => vpi (fun r => q (c40.mpr r))) (fun _ q => m1 (fun r => q (c40.mpr r)) _) (fun _ q => m2 (c40.mp q)) (fun q => absurd ea q)
        · have ea : ¬ atv T L (e + 1) = 39 := fun q => hd ((atv_eq (c := 39) hT (by decide)).mp q)
          have eq : sc_quote T L (n + 1) e = (true, e + 1, []) := by rw [sc_quote, if_neg hlp, if_pos ⟨h39, hd⟩]
          refine cm_M_quoted_87 (d := d + 1) (b1 := b) (b4 := t) hP.1 v1 htm v6 htz hbz (fun q => absurd q ea) (fun q => absurd q ea) (fun q => absurd q ea) (fun q => absurd q ea) (fun q => absurd q ea) (fun _ => ?_)
          refine k σ _ (hP.w S1') (Fm.rfl' _ _ _) S1' rfl rfl rfl (fun _ => ⟨h44, ?_, h49, ?_⟩) (fun q => absurd ?_ q)
          · rw [eq]; rfl
          · rw [eq, List.append_nil]; exact hV
          · unfold qgood
            rw [eq]
            exact ⟨rfl, rfl, v4⟩
      · have eq : sc_quote T L (n + 1) e = ((sc_quote T L n (e + 1)).1, (sc_quote T L n (e + 1)).2.1, T e :: (sc_quote T L n (e + 1)).2.2) := by
          rw [sc_quote, if_neg hlp, if_neg (fun q => h39 q.1), if_neg h39]
        obtain ⟨m1, m2⟩ := more (e + 1) w (SS.rfl' _) rfl h44 h49 (by omega) (by omega) eq (by rw [h46]; exact e1)
        exact cm_M_quoted_43 (d := d + 1) (b1 := b) (b4 := t) hP.1 v1 htm v6 htz hbz (fun q => absurd q n32) (fun _ _ _ => h49) (fun _ _ _ _ => v5) (fun _ _ _ q => vpi (fun r => q (c40.mpr r))) (fun _ _ _ q => m1 (fun r => q (c40.mpr r)) _) (fun _ _ _ q => m2 (c40.mp q)) (fun _ _ q => absurd q h39) (fun _ q => absurd hch.2 q)
    · refine bad (n + 1) e σ w cs u hP he h46 hV (fun q => hch q.2) (fun q => ?_) k
      have h39 : ¬ T e = 39 := fun q9 => by rw [q9] at hch; exact absurd (show sc_chr 39 by decide) hch
      have q2 := q.2.1
      rw [sc_quote, if_neg hlp, if_neg (fun q9 => h39 q9.1)] at q2
      have q3 : sc_alb (T e :: (sc_quote T L n (if T e = 39 then e + 2 else e + 1)).2.2) = true := q2
      rw [alb_cons, decide_eq_false hch] at q3
      exact absurd q3 (by simp)
end MQuote
