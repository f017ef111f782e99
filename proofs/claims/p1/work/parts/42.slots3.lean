/-! ===== texts of the slots ===== -/
theorem t40 (s : Nat) : nI s * 40 = nI (s * 40) := by rw [show (40 : Int32) = nI 40 from rfl, pk_mul]
/-- a text that lies in a row -/
def rowT (f : Nat → Int32) (a n : Nat) : List Int32 := (List.range n).map fun i => f (a + i)
theorem rowT_len (f : Nat → Int32) (a n : Nat) : (rowT f a n).length = n := by simp [rowT]
theorem rowT_at {f : Nat → Int32} {a n i : Nat} (h : i < n) : (rowT f a n).getD i 0 = f (a + i) := by simp [rowT, List.getD, h]
theorem rowT_all {f : Nat → Int32} {a n : Nat} {P : Int32 → Prop} (h : ∀ i, i < n → P (f (a + i))) : ∀ c ∈ rowT f a n, P c := by
  intro c hc
  obtain ⟨i, hi, rfl⟩ := List.mem_map.mp hc
  exact h i (List.mem_range.mp hi)
theorem fit_eq {st n : Nat} (h1 : st + n ≤ 1000) (h2 : n ≤ 40) : (if (1000 - nI st) < (if 40 < nI n then 40 else nI n) then (1000 - nI st) else (if 40 < nI n then 40 else nI n)) = nI n := by
  rw [show (1000 : Int32) = nI 1000 from rfl, show (40 : Int32) = nI 40 from rfl, pk_sub (by omega), if_neg (c := nI 40 < nI n) (nI_nlt (by omega) (by omega)), if_neg (nI_nlt (by omega) (by omega))]
section ClSlots3
variable {z : State} {l : Launch} {d : Nat} {σ : Hp} {ad : Nat → Nat} {w : Wd} {S : Nat → Va} {Q : Outcome → Hp → Prop}
theorem sls_text {w w' : Wd} {S : Nat → Va} {s n : Nat} {f : Nat → Int32} {a : Nat} (hS : SLS w S) (hn : n ≤ 40) (h4 : w'.eI 4 = va_up (w.eI 4) s 1) (h5 : w'.eJ 5 = va_up (w.eJ 5) s (lN n)) (h6 : w'.eI 6 = va_cpy f (w.eI 6) a (s * 40) n) (hch : ∀ i, i < n → ch_ok (f (a + i))) : SLS w' (va_up S s (1, lN n, rowT f a n)) := by
  refine hS.upd (fun j hj => by rw [h4]; exact va_up_ne _ _ hj) (fun j hj => by rw [h5]; exact va_up_ne _ _ hj) (fun i hi => by rw [h6]; exact pk_cpy_out (by omega)) ?_ ⟨by rw [h4]; exact va_up_self _ _ _, by rw [h5]; exact va_up_self _ _ _, fun i hi => ?_⟩
  · have := v_ok_text (c := rowT f a n) (by rw [rowT_len]; exact hn) (rowT_all hch)
    rw [rowT_len] at this
    exact this
  · have hi' : i < n := by rw [← rowT_len f a n]; exact hi
    show _ = (rowT f a n).getD i 0
    rw [h6, rowT_at hi', pk_cpy_in (by omega) (by omega), show s * 40 + i - s * 40 = i by omega]
theorem cl_putText_1 {s st n : Nat} (hc : CW z σ ad) (hl : CLk w ad) (hS : SLS w S) (hs : s < 251) (h1 : st + n ≤ 1000) (h2 : n ≤ 40) (hch : ∀ i, i < n → ch_ok (w.eI 1 (st + i))) (k : ∀ w', SF w w' → SLS w' (va_up S s (1, lN n, rowT (w.eI 1) st n)) → Q (.returned none) (ov σ ad 21 w')) :
    Go z l mt_L_putText (d + 9) 0 [.ref (ad 3), .int (nI s), .ref (ad 1), .int (nI st), .int (nI n), .retAddr 0] [] (ov σ ad 21 w) Q := by
  have es : (nI s).toNatClampNeg = s := nI_clamp (by omega)
  have is : vp_in (nI s) 251 := vp_in_nI hs (by omega)
  refine cs_L_putText_1 (d := d) hc hl is is (nI_pos (by omega)) (by rw [t40]; exact nI_pos (by omega)) (by rw [fit_eq h1 h2]; exact nI_pos (by omega)) (by rw [fit_eq h1 h2, nI_clamp (by omega), nI_clamp (by omega)]; exact h1) (by rw [fit_eq h1 h2, t40, nI_clamp (by omega), nI_clamp (by omega)]; omega) ?_
  rw [fit_eq h1 h2]
  refine k _ (((sf_4 _ _).trans (sf_5 _ _)).trans (sf_6 _ _)) (sls_text hS h2 (by rw [es]; rfl) (by rw [es, nI_l (by omega)]; rfl) ?_ hch)
  rw [nI_clamp (n := st) (by omega), nI_clamp (n := n) (by omega), t40, nI_clamp (n := s * 40) (by omega)]
  rfl
theorem cl_putText_11 {s st n : Nat} (hc : CW z σ ad) (hl : CLk w ad) (hS : SLS w S) (hs : s < 251) (h1 : st + n ≤ 1000) (h2 : n ≤ 40) (hch : ∀ i, i < n → ch_ok (w.eI 11 (st + i))) (k : ∀ w', SF w w' → SLS w' (va_up S s (1, lN n, rowT (w.eI 11) st n)) → Q (.returned none) (ov σ ad 21 w')) :
    Go z l mt_L_putText (d + 9) 0 [.ref (ad 3), .int (nI s), .ref (ad 11), .int (nI st), .int (nI n), .retAddr 0] [] (ov σ ad 21 w) Q := by
  have es : (nI s).toNatClampNeg = s := nI_clamp (by omega)
  have is : vp_in (nI s) 251 := vp_in_nI hs (by omega)
  refine cs_L_putText_11 (d := d) hc hl is is (nI_pos (by omega)) (by rw [t40]; exact nI_pos (by omega)) (by rw [fit_eq h1 h2]; exact nI_pos (by omega)) (by rw [fit_eq h1 h2, nI_clamp (by omega), nI_clamp (by omega)]; exact h1) (by rw [fit_eq h1 h2, t40, nI_clamp (by omega), nI_clamp (by omega)]; omega) ?_
  rw [fit_eq h1 h2]
  refine k _ (((sf_4 _ _).trans (sf_5 _ _)).trans (sf_6 _ _)) (sls_text hS h2 (by rw [es]; rfl) (by rw [es, nI_l (by omega)]; rfl) ?_ hch)
  rw [nI_clamp (n := st) (by omega), nI_clamp (n := n) (by omega), t40, nI_clamp (n := s * 40) (by omega)]
  rfl
/-- the second text behind the first -/
theorem cl_join {s t : Nat} (hc : CW z σ ad) (hl : CLk w ad) (hS : SLS w S) (hs : s < 251) (ht : t < 251) (hst : s ≠ t) (k1 : (S s).1 = 1) (k2 : (S t).1 = 1)
    (kn : 40 < (S s).2.2.length + (S t).2.2.length → Q (.returned (some (.int 0))) (ov σ ad 21 w))
    (ky : (S s).2.2.length + (S t).2.2.length ≤ 40 → ∀ w', SF w w' → SLS w' (va_up S s (1, lN ((S s).2.2 ++ (S t).2.2).length, (S s).2.2 ++ (S t).2.2)) → Q (.returned (some (.int 1))) (ov σ ad 21 w')) :
    Go z l mt_L_join (d + 9) 0 [.ref (ad 3), .int (nI s), .int (nI t), .retAddr 0, .retAddr 0] [] (ov σ ad 21 w) Q := by
  have es : (nI s).toNatClampNeg = s := nI_clamp (by omega)
  have et : (nI t).toNatClampNeg = t := nI_clamp (by omega)
  obtain ⟨⟨a1, a2, a3⟩, a4⟩ := hS s hs
  obtain ⟨⟨b1, b2, b3⟩, b4⟩ := hS t ht
  have la := a4.len
  have lb := b4.len
  obtain ⟨na, ca⟩ := a4.text k1
  obtain ⟨nb, cb⟩ := b4.text k2
  generalize hA : (S s).2.2 = A at *
  generalize hB : (S t).2.2 = B at *
  have e1 : (w.eJ 5 s).toInt32 = nI A.length := by rw [a2, na, lN_i]
  have e2 : (w.eJ 5 t).toInt32 = nI B.length := by rw [b2, nb, lN_i]
  have e3 : (nI A.length + nI B.length ≤ 40) ↔ A.length + B.length ≤ 40 := by
    rw [nI_add, show (40 : Int32) = nI 40 from rfl]
    exact nI_leI (by omega) (by omega)
  refine cs_L_join (d := d) hc hl (vp_in_nI hs (by omega)) (vp_in_nI ht (by omega)) ?_ ?_ ?_ ?_ ?_ ?_ ?_ <;> rw [es, et, e1, e2, e3]
  · intro _; rw [t40]; exact nI_pos (by omega)
  · intro _; rw [t40, nI_add]; exact nI_pos (by omega)
  · intro _; exact nI_pos (by omega)
  · intro h; rw [t40, nI_clamp (by omega), nI_clamp (by omega)]; omega
  · intro h; rw [t40, nI_add, nI_clamp (by omega), nI_clamp (by omega)]; omega
  · intro h
    refine ky h _ ((sf_6 _ _).trans (sf_5 _ _)) ?_
    rw [t40, t40, nI_add, nI_add, nI_l (by omega), nI_clamp (n := t * 40) (by omega), nI_clamp (n := s * 40 + A.length) (by omega), nI_clamp (n := B.length) (by omega)]
    refine hS.upd (fun _ _ => rfl) (fun _ hj => va_up_ne _ _ hj) (fun i hi => pk_cpy_out (by omega)) (v_ok_text (by rw [List.length_append]; exact h) (fun x hx => (List.mem_append.mp hx).elim (ca x) (cb x))) ⟨a1.trans k1, by rw [List.length_append]; exact va_up_self _ _ _, fun i hi => ?_⟩
    have hi' : i < A.length + B.length := by rw [← List.length_append]; exact hi
    show va_cpy (w.eI 6) (w.eI 6) (t * 40) (s * 40 + A.length) B.length (s * 40 + i) = (A ++ B).getD i 0
    by_cases hA9 : i < A.length
    · rw [pk_cpy_out (by omega), a3 i hA9]
      simp [List.getD, List.getElem?_append, hA9]
    · rw [pk_cpy_in (by omega) (by omega), show t * 40 + (s * 40 + i - (s * 40 + A.length)) = t * 40 + (i - A.length) by omega, b3 (i - A.length) (by omega)]
      simp [List.getD, List.getElem?_append, hA9]
  · intro h; exact kn (by omega)
end ClSlots3
