/-! ===== the slots as a store of values ===== -/
/-- the rows of the slots and the worker's own numbers -/
def KW (w : Wd) (k : Nat → Int32) (n : Nat → Int64) (c v : Nat → Int32) (tp er : Int32) : Wd := (((((w.rowI 4 k).rowJ 5 n).rowI 6 c).rowI 7 v).setI 20 37 tp).setI 20 38 er
theorem wd_ext {w w' : Wd} (h1 : w.I = w'.I) (h2 : w.J = w'.J) (h3 : w.A = w'.A) (h4 : w.eI = w'.eI) (h5 : w.eJ = w'.eJ) (h6 : w.eA = w'.eA) : w = w' := by
  obtain ⟨a, b, c, d, e, f⟩ := w
  obtain ⟨a', b', c', d', e', f'⟩ := w'
  cases h1; cases h2; cases h3; cases h4; cases h5; cases h6; rfl
theorem up22_self {α : Type} (g : Nat → Nat → α) (i f : Nat) : up22 g i f (g i f) = g := by
  funext h b
  rw [up22_eq]
  split
  · rename_i q; rw [q.1, q.2]
  · rfl
theorem up21_self {α : Type} (g : Nat → α) (i : Nat) : up21 g i (g i) = g := by
  funext h
  rw [up21_eq]
  split
  · rename_i q; rw [q]
  · rfl
/-- only the slots' rows have changed -/
def SF (w w' : Wd) : Prop := ∃ k n c v, w' = KW w k n c v (w.I 20 37) (w.I 20 38)
theorem KW_I (w : Wd) (k : Nat → Int32) (n : Nat → Int64) (c v : Nat → Int32) : (KW w k n c v (w.I 20 37) (w.I 20 38)).I = w.I := by
  show up22 (up22 w.I 20 37 (w.I 20 37)) 20 38 (w.I 20 38) = w.I
  rw [up22_self, up22_self]
theorem sf_of {w w' : Wd} (h1 : w'.I = w.I) (h2 : w'.J = w.J) (h3 : w'.A = w.A) (h4 : ∀ i, i ≠ 4 → i ≠ 6 → i ≠ 7 → w'.eI i = w.eI i) (h5 : ∀ i, i ≠ 5 → w'.eJ i = w.eJ i) (h6 : w'.eA = w.eA) : SF w w' :=
  ⟨w'.eI 4, w'.eJ 5, w'.eI 6, w'.eI 7, wd_ext (h1.trans (KW_I w _ _ _ _).symm) h2 h3 (by
    show w'.eI = up21 (up21 (up21 w.eI 4 (w'.eI 4)) 6 (w'.eI 6)) 7 (w'.eI 7)
    funext i
    rw [up21_eq, up21_eq, up21_eq]
    by_cases a7 : i = 7
    · rw [if_pos a7, a7]
    · rw [if_neg a7]
      by_cases a6 : i = 6
      · rw [if_pos a6, a6]
      · rw [if_neg a6]
        by_cases a4 : i = 4
        · rw [if_pos a4, a4]
        · rw [if_neg a4, h4 i a4 a6 a7]) (by
    show w'.eJ = up21 w.eJ 5 (w'.eJ 5)
    funext i
    rw [up21_eq]
    by_cases a5 : i = 5
    · rw [if_pos a5, a5]
    · rw [if_neg a5, h5 i a5]) h6⟩
theorem sf_ne {α : Type} (g : Nat → α) (i : Nat) (x : α) {j : Nat} (h : j ≠ i) : up21 g i x j = g j := by rw [up21_eq, if_neg h]
theorem sf_4 (w : Wd) (f : Nat → Int32) : SF w (w.rowI 4 f) := sf_of rfl rfl rfl (fun i a _ _ => sf_ne _ _ _ a) (fun _ _ => rfl) rfl
theorem sf_5 (w : Wd) (f : Nat → Int64) : SF w (w.rowJ 5 f) := sf_of rfl rfl rfl (fun _ _ _ _ => rfl) (fun i a => sf_ne _ _ _ a) rfl
theorem sf_6 (w : Wd) (f : Nat → Int32) : SF w (w.rowI 6 f) := sf_of rfl rfl rfl (fun i _ a _ => sf_ne _ _ _ a) (fun _ _ => rfl) rfl
theorem sf_7 (w : Wd) (f : Nat → Int32) : SF w (w.rowI 7 f) := sf_of rfl rfl rfl (fun i _ _ a => sf_ne _ _ _ a) (fun _ _ => rfl) rfl
theorem SF.parts {w w' : Wd} (h : SF w w') : w'.I = w.I ∧ w'.J = w.J ∧ w'.A = w.A ∧ (∀ i, i ≠ 4 → i ≠ 6 → i ≠ 7 → w'.eI i = w.eI i) ∧ (∀ i, i ≠ 5 → w'.eJ i = w.eJ i) ∧ w'.eA = w.eA := by
  obtain ⟨k, n, c, v, rfl⟩ := h
  exact ⟨KW_I w k n c v, rfl, rfl, fun i a b c9 => (sf_ne _ _ _ c9).trans ((sf_ne _ _ _ b).trans (sf_ne _ _ _ a)), fun i a => sf_ne _ _ _ a, rfl⟩
theorem SF.refl (w : Wd) : SF w w := sf_of rfl rfl rfl (fun _ _ _ _ => rfl) (fun _ _ => rfl) rfl
theorem SF.trans {a b c : Wd} (h : SF a b) (k : SF b c) : SF a c := by
  obtain ⟨p1, p2, p3, p4, p5, p6⟩ := h.parts
  obtain ⟨q1, q2, q3, q4, q5, q6⟩ := k.parts
  exact sf_of (q1.trans p1) (q2.trans p2) (q3.trans p3) (fun i a1 a2 a3 => (q4 i a1 a2 a3).trans (p4 i a1 a2 a3)) (fun i a1 => (q5 i a1).trans (p5 i a1)) (q6.trans p6)
theorem SF.link {w w' : Wd} {ad : Nat → Nat} (h : SF w w') (hl : CLk w ad) : CLk w' ad := fun q hq => by rw [h.parts.2.2.1]; exact hl q hq
def SLS (w : Wd) (S : Nat → Va) : Prop := ∀ s, s < 251 → SL w s (S s) ∧ v_ok (S s)
theorem SLS.upd {w w' : Wd} {S : Nat → Va} {s : Nat} {v : Va} (h : SLS w S) (hk : ∀ j, j ≠ s → w'.eI 4 j = w.eI 4 j) (hn : ∀ j, j ≠ s → w'.eJ 5 j = w.eJ 5 j) (hc : ∀ i, (i < s * 40 ∨ s * 40 + 40 ≤ i) → w'.eI 6 i = w.eI 6 i) (hv : v_ok v) (e : SL w' s v) : SLS w' (va_up S s v) := fun j hj => by
  by_cases hjs : j = s
  · rw [hjs, va_up_self]; exact ⟨e, hv⟩
  · rw [va_up_ne _ _ hjs]
    obtain ⟨⟨a1, a2, a3⟩, a4⟩ := h j hj
    exact ⟨⟨(hk j hjs).trans a1, (hn j hjs).trans a2, fun i hi => (hc _ (by have := a4.len; omega)).trans (a3 i hi)⟩, a4⟩
theorem va_up_at {α : Type} (f : Nat → α) (k j : Nat) : va_up f k (f j) j = f j := by
  unfold va_up
  split <;> rfl
/-- a value without characters -/
theorem SLS.num {w : Wd} {S : Nat → Va} (h : SLS w S) (s : Nat) {kd : Int32} {x : Int64} (hv : v_ok (kd, x, [])) : SLS ((w.rowI 4 (va_up (w.eI 4) s kd)).rowJ 5 (va_up (w.eJ 5) s x)) (va_up S s (kd, x, [])) :=
  h.upd (fun _ hj => va_up_ne _ _ hj) (fun _ hj => va_up_ne _ _ hj) (fun _ _ => rfl) hv ⟨va_up_self _ _ _, va_up_self _ _ _, fun i hi => absurd hi (Nat.not_lt_zero _)⟩
theorem v_ok_null : v_ok (3, 0, []) := Or.inr (Or.inr (Or.inr rfl))
theorem v_ok_bool {x : Int64} (h : x = 0 ∨ x = 1) : v_ok (2, x, []) := Or.inr (Or.inr (Or.inl ⟨rfl, h, rfl⟩))
theorem v_ok.eta {v : Va} (h : v_ok v) (hk : ¬ v.1 = 1) : v = (v.1, v.2.1, []) := by
  obtain ⟨a, b, c⟩ := v
  rcases h with ⟨-, h⟩ | ⟨h, -⟩ | ⟨-, -, h⟩ | h
  · cases h; rfl
  · exact absurd h hk
  · cases h; rfl
  · cases h; rfl
theorem v_ok.eta1 {v : Va} (h : v_ok v) (hk : v.1 = 1) : v = (1, lN v.2.2.length, v.2.2) := by
  obtain ⟨a, b, c⟩ := v
  obtain ⟨h1, -⟩ := h.text hk
  show (a, b, c) = (1, lN c.length, c)
  rw [show a = 1 from hk, show b = lN c.length from h1]
theorem v_ok_text {c : List Int32} (h : c.length ≤ 40) (hc : ∀ x ∈ c, ch_ok x) : v_ok (1, lN c.length, c) := Or.inr (Or.inl ⟨rfl, rfl, h, hc⟩)
section ClSlots2
variable {z : State} {l : Launch} {d : Nat} {σ : Hp} {ad : Nat → Nat} {w : Wd} {S : Nat → Va} {Q : Outcome → Hp → Prop}
theorem cl_copy {s t : Nat} (hc : CW z σ ad) (hl : CLk w ad) (hS : SLS w S) (hs : s < 251) (ht : t < 251) (k : ∀ w', SF w w' → SLS w' (va_up S t (S s)) → Q (.returned none) (ov σ ad 21 w')) :
    Go z l mt_L_copy (d + 9) 0 [.ref (ad 3), .int (nI s), .int (nI t), .retAddr 0] [] (ov σ ad 21 w) Q := by
  have es : (nI s).toNatClampNeg = s := nI_clamp (by omega)
  have et : (nI t).toNatClampNeg = t := nI_clamp (by omega)
  have is : vp_in (nI s) 251 := vp_in_nI hs (by omega)
  have it : vp_in (nI t) 251 := vp_in_nI ht (by omega)
  obtain ⟨⟨a1, a2, a3⟩, a4⟩ := hS s hs
  have m1 : nI s * 40 = nI (s * 40) := by rw [show (40 : Int32) = nI 40 from rfl, pk_mul]
  have m2 : nI t * 40 = nI (t * 40) := by rw [show (40 : Int32) = nI 40 from rfl, pk_mul]
  have n1 : (nI (s * 40)).toNatClampNeg = s * 40 := nI_clamp (by omega)
  have n2 : (nI (t * 40)).toNatClampNeg = t * 40 := nI_clamp (by omega)
  have hln := a4.len
  have hkk : ∀ x : Nat, va_up (w.eI 4) t (w.eI 4 x) x = w.eI 4 x := fun x => va_up_at _ _ _
  have hnn : ∀ x : Nat, va_up (w.eJ 5) t (w.eJ 5 x) x = w.eJ 5 x := fun x => va_up_at _ _ _
  have hb : ∀ P : Prop, ((va_up (w.eI 4) t (w.eI 4 s) s = 1) → P) → ((S s).1 = 1 → P) := fun P h q => h (by rw [hkk, a1]; exact q)
  have hln2 : (S s).1 = 1 → ((va_up (w.eJ 5) t (w.eJ 5 s) s).toInt32) = nI (S s).2.2.length := fun q => by rw [hnn, a2, (a4.text q).1, lN_i]
  have hq : va_up (w.eI 4) t (w.eI 4 s) s = 1 → (S s).1 = 1 := fun q => by rw [hkk, a1] at q; exact q
  refine cs_L_copy (d := d) hc hl is is it it ?_ ?_ ?_ ?_ ?_ ?_ ?_
  · rw [es, et]
    intro h
    have h' : ¬ (S s).1 = 1 := fun q => h (show va_up (w.eI 4) t (w.eI 4 s) s = 1 by rw [hkk, a1]; exact q)
    refine k _ ((sf_4 _ _).trans (sf_5 _ _)) ?_
    have e : S s = (w.eI 4 s, w.eJ 5 s, []) := by rw [a1, a2]; exact a4.eta h'
    rw [e]
    exact hS.num t (by rw [← e]; exact a4)
  · intro _; rw [m1]; exact nI_pos (by omega)
  · intro _; rw [m2]; exact nI_pos (by omega)
  · rw [es, et]; intro h
    show ¬ (va_up (w.eJ 5) t (w.eJ 5 s) s).toInt32 < 0
    rw [hln2 (hq h)]; exact nI_pos (by omega)
  · rw [es, et]; intro h
    show _ + ((va_up (w.eJ 5) t (w.eJ 5 s) s).toInt32).toNatClampNeg ≤ _
    rw [hln2 (hq h), m1, n1, nI_clamp (by omega)]; omega
  · rw [es, et]; intro h
    show _ + ((va_up (w.eJ 5) t (w.eJ 5 s) s).toInt32).toNatClampNeg ≤ _
    rw [hln2 (hq h), m2, n2, nI_clamp (by omega)]; omega
  · rw [es, et]; intro h
    refine k _ (((sf_4 _ _).trans (sf_5 _ _)).trans (sf_6 _ _)) ?_
    have e9 : ((va_up (w.eJ 5) t (w.eJ 5 s) s).toInt32).toNatClampNeg = (S s).2.2.length := by rw [hln2 (hq h), nI_clamp (by omega)]
    refine hS.upd (fun _ hj => va_up_ne _ _ hj) (fun _ hj => va_up_ne _ _ hj) (fun i hi => ?_) a4 ⟨(va_up_self _ _ _).trans a1, (va_up_self _ _ _).trans a2, fun i hi => ?_⟩
    · show va_cpy (w.eI 6) (w.eI 6) _ _ ((va_up (w.eJ 5) t (w.eJ 5 s) s).toInt32).toNatClampNeg i = _
      rw [e9, m1, m2, n1, n2]
      exact pk_cpy_out (by omega)
    · show va_cpy (w.eI 6) (w.eI 6) _ _ ((va_up (w.eJ 5) t (w.eJ 5 s) s).toInt32).toNatClampNeg (t * 40 + i) = _
      rw [e9, m1, m2, n1, n2, pk_cpy_in (by omega) (by omega), ← a3 i hi]
      congr 1
      omega
end ClSlots2
