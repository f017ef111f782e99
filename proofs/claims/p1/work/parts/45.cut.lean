/-! ===== SUBSTR ===== -/
def sp_cut (A : List Int32) (i n : Int) : List Int32 := (A.take (min (i + n - 1) A.length).toNat).drop (max i 1 - 1).toNat
theorem j_add {a b : Int64} (h1 : -2 ^ 62 ≤ a.toInt + b.toInt) (h2 : a.toInt + b.toInt < 2 ^ 62) : (a + b).toInt = a.toInt + b.toInt := by
  rw [Int64.toInt_add]
  exact Int.bmod_eq_of_le (by omega) (by omega)
theorem j_sub {a b : Int64} (h1 : -2 ^ 62 ≤ a.toInt - b.toInt) (h2 : a.toInt - b.toInt < 2 ^ 62) : (a - b).toInt = a.toInt - b.toInt := by
  rw [Int64.toInt_sub]
  exact Int.bmod_eq_of_le (by omega) (by omega)
theorem j_min (a b : Int64) : (if a < b then a else b).toInt = min a.toInt b.toInt := by
  by_cases h : a < b
  · have := Int64.lt_iff_toInt_lt.mp h
    rw [if_pos h]; omega
  · have : ¬ a.toInt < b.toInt := fun q => h (Int64.lt_iff_toInt_lt.mpr q)
    rw [if_neg h]; omega
theorem j_max1 (a : Int64) : (if 1 < a then a else 1).toInt = max a.toInt 1 := by
  have e : (1 : Int64).toInt = 1 := by decide
  by_cases h : 1 < a
  · have := Int64.lt_iff_toInt_lt.mp h
    rw [if_pos h]; omega
  · have : ¬ (1 : Int64).toInt < a.toInt := fun q => h (Int64.lt_iff_toInt_lt.mpr q)
    rw [if_neg h]; omega
theorem j_max0 (a : Int64) : (if a < 0 then 0 else a).toInt = max a.toInt 0 := by
  have e : (0 : Int64).toInt = 0 := by decide
  by_cases h : a < 0
  · have := Int64.lt_iff_toInt_lt.mp h
    rw [if_pos h]; omega
  · have : ¬ a.toInt < (0 : Int64).toInt := fun q => h (Int64.lt_iff_toInt_lt.mpr q)
    rw [if_neg h]; omega
theorem sp_cut_len (A : List Int32) (i n : Int) : (sp_cut A i n).length = (min (i + n - 1) A.length - max i 1 + 1).toNat := by
  rw [sp_cut, List.length_drop, List.length_take]
  omega
theorem sp_cut_at {A : List Int32} {i n : Int} {j : Nat} (h : j < (sp_cut A i n).length) : (sp_cut A i n).getD j 0 = A.getD ((max i 1 - 1).toNat + j) 0 := by
  have h' := h
  rw [sp_cut_len] at h'
  simp only [sp_cut, List.getD, List.getElem?_drop, List.getElem?_take]
  rw [if_pos (by omega)]
theorem cut_len {i n : Int64} {A : List Int32} (hA : A.length ≤ 40) (h1 : -9007199254740991 ≤ i.toInt) (h2 : i.toInt ≤ 9007199254740991) (h3 : 0 ≤ n.toInt) (h4 : n.toInt ≤ 9007199254740991) :
    (if (((if lN A.length < ((i + n) - 1) then lN A.length else ((i + n) - 1)) - (if 1 < i then i else 1)) + 1) < 0 then 0 else (((if lN A.length < ((i + n) - 1) then lN A.length else ((i + n) - 1)) - (if 1 < i then i else 1)) + 1)) = lN (sp_cut A i.toInt n.toInt).length := by
  have e1 : (1 : Int64).toInt = 1 := by decide
  have eL : (lN A.length).toInt = A.length := lN_toInt (by omega)
  have a1 : (i + n).toInt = i.toInt + n.toInt := j_add (by omega) (by omega)
  have a2 : ((i + n) - 1).toInt = i.toInt + n.toInt - 1 := by rw [j_sub (by omega) (by omega), a1, e1]
  have a3 := j_min (lN A.length) ((i + n) - 1)
  rw [a2, eL] at a3
  have a4 := j_max1 i
  have a5 : ((if lN A.length < ((i + n) - 1) then lN A.length else ((i + n) - 1)) - (if 1 < i then i else 1)).toInt = min (A.length : Int) (i.toInt + n.toInt - 1) - max i.toInt 1 := by rw [j_sub (by omega) (by omega), a3, a4]
  have a6 : (((if lN A.length < ((i + n) - 1) then lN A.length else ((i + n) - 1)) - (if 1 < i then i else 1)) + 1).toInt = min (A.length : Int) (i.toInt + n.toInt - 1) - max i.toInt 1 + 1 := by rw [j_add (by omega) (by omega), a5, e1]
  refine Int64.toInt_inj.mp ?_
  rw [j_max0, a6, lN_toInt (by rw [sp_cut_len]; omega), sp_cut_len]
  omega
theorem cut_from {i : Int64} {A : List Int32} {n : Int} (hA : A.length ≤ 40) (h0 : 0 < (sp_cut A i.toInt n).length) : (if 1 < i then i else 1) = lN (max i.toInt 1 - 1).toNat + 1 := by
  rw [sp_cut_len] at h0
  have e1 : (1 : Int64).toInt = 1 := by decide
  refine Int64.toInt_inj.mp ?_
  rw [j_max1, j_add (by rw [lN_toInt (by omega)]; omega) (by rw [lN_toInt (by omega)]; omega), lN_toInt (by omega), e1]
  omega
section ClCut
variable {z : State} {l : Launch} {d : Nat} {σ : Hp} {ad : Nat → Nat} {w : Wd} {S : Nat → Va} {Q : Outcome → Hp → Prop}
theorem cl_cut {s : Nat} {i n : Int64} (hc : CW z σ ad) (hl : CLk w ad) (hS : SLS w S) (hs : s < 251) (k1 : (S s).1 = 1) (h1 : -9007199254740991 ≤ i.toInt) (h2 : i.toInt ≤ 9007199254740991) (h3 : 0 ≤ n.toInt) (h4 : n.toInt ≤ 9007199254740991)
    (k : ∀ w', SF w w' → SLS w' (va_up S s (1, lN (sp_cut (S s).2.2 i.toInt n.toInt).length, sp_cut (S s).2.2 i.toInt n.toInt)) → Q (.returned none) (ov σ ad 21 w')) :
    Go z l mt_L_cut (d + 9) 0 [.ref (ad 3), .int (nI s), .long i, .retAddr 0, .long n, .retAddr 0, .retAddr 0, .retAddr 0, .retAddr 0, .retAddr 0, .retAddr 0, .retAddr 0] [] (ov σ ad 21 w) Q := by
  obtain ⟨⟨a1, a2, a3⟩, a4⟩ := hS s hs
  obtain ⟨na, ca⟩ := a4.text k1
  have la := a4.len
  have es : (nI s).toNatClampNeg = s := nI_clamp (by omega)
  generalize hA : (S s).2.2 = A at *
  have hlen := cut_len la h1 h2 h3 h4
  have hle : (sp_cut A i.toInt n.toInt).length + (max i.toInt 1 - 1).toNat ≤ A.length ∨ (sp_cut A i.toInt n.toInt).length = 0 := by
    rw [sp_cut_len]; omega
  have hok : v_ok (1, lN (sp_cut A i.toInt n.toInt).length, sp_cut A i.toInt n.toInt) := by
    refine v_ok_text (by omega) (fun c hc9 => ca c ?_)
    exact List.mem_of_mem_take (List.mem_of_mem_drop hc9)
  have hL : (sp_cut A i.toInt n.toInt).length ≤ 40 := by omega
  refine cs_L_cut (d := d) hc hl (vp_in_nI hs (by omega)) ?_ ?_ ?_ ?_ ?_ ?_ ?_ <;> rw [es, a2, na, hlen, lN_i]
  · intro h
    have h0 : (sp_cut A i.toInt n.toInt).length = 0 := by
      have := (nI_leI (b := 0) (by omega) (by omega)).mp h
      omega
    refine k _ (sf_5 _ _) ?_
    rw [nI_l (by omega)]
    exact hS.upd (fun _ _ => rfl) (fun _ hj => va_up_ne _ _ hj) (fun _ _ => rfl) hok ⟨a1.trans k1, va_up_self _ _ _, fun j hj => absurd hj (by show ¬ j < (sp_cut A i.toInt n.toInt).length; omega)⟩
  all_goals intro h
  all_goals have h0 : 0 < (sp_cut A i.toInt n.toInt).length := by
              rcases Nat.eq_zero_or_pos (sp_cut A i.toInt n.toInt).length with q | q
              · rw [q] at h; exact absurd (by decide) h
              · exact q
  all_goals have hfr : nI s * 40 + (if 1 < i then i else 1).toInt32 - 1 = nI (s * 40 + (max i.toInt 1 - 1).toNat) := by
              rw [cut_from la h0, lN_1, lN_i, t40, nI_add, show s * 40 + ((max i.toInt 1 - 1).toNat + 1) = s * 40 + (max i.toInt 1 - 1).toNat + 1 from rfl, nI_pred]
  · rw [hfr]; exact nI_pos (by omega)
  · rw [t40]; exact nI_pos (by omega)
  · exact nI_pos (by omega)
  · rw [hfr, nI_clamp (by omega), nI_clamp (by omega)]; omega
  · rw [t40, nI_clamp (by omega), nI_clamp (by omega)]; omega
  · refine k _ ((sf_6 _ _).trans (sf_5 _ _)) ?_
    rw [hfr, t40, nI_l (by omega), nI_clamp (n := s * 40 + _) (by omega), nI_clamp (n := s * 40) (by omega), nI_clamp (n := (sp_cut A i.toInt n.toInt).length) (by omega)]
    refine hS.upd (fun _ _ => rfl) (fun _ hj => va_up_ne _ _ hj) (fun _ hi => pk_cpy_out (by omega)) hok ⟨a1.trans k1, va_up_self _ _ _, fun j hj => ?_⟩
    have hj' : j < (sp_cut A i.toInt n.toInt).length := hj
    show va_cpy (w.eI 6) (w.eI 6) (s * 40 + (max i.toInt 1 - 1).toNat) (s * 40) (sp_cut A i.toInt n.toInt).length (s * 40 + j) = (sp_cut A i.toInt n.toInt).getD j 0
    rw [pk_cpy_in (by omega) (by omega), sp_cut_at hj', ← a3 _ (by omega)]
    congr 1
    omega
end ClCut
