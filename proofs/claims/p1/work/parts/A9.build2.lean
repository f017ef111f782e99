section Builders2
variable {z : State} {l : Launch} {d : Nat} {σ : Hp} {Q : Outcome → Hp → Prop}
theorem gD_app {cs : List Int32} {c : Int32} {i : Nat} (hi : i < cs.length) : (cs ++ [c]).getD i 0 = cs.getD i 0 := by
  simp [List.getD, List.getElem?_append_left hi]
theorem gD_last {cs : List Int32} {c : Int32} : (cs ++ [c]).getD cs.length 0 = c := by
  simp [List.getD]
theorem nar_b {j : Nat} (h : j ≤ 127) : vp_nar .byte (nI j).toInt8.toInt32 = nI j := (by decide +kernel : ∀ j, j < 128 → vp_nar .byte (nI j).toInt8.toInt32 = nI j) j (by omega)
/-- a character more -/
theorem bd_app {b r cap j : Nat} {cs : List Int32} (hB : Bld σ b r cs cap) (hz : z.heap.size ≤ b) (hzr : z.heap.size ≤ r) (hl : cs.length ≤ 1002) (hc : cap ≤ 10000) (hj : j ≤ 127)
    (k : ∀ σ' r' cap', Fx (fun a => a = b ∨ a = r) σ σ' → Bld σ' b r' (cs ++ [nI j]) cap' → z.heap.size ≤ r' → (r' = r ∨ σ.nx ≤ r') → σ'.nx ≤ σ.nx + 1 → cap ≤ cap' → σ'.sl + 2 * cap ≤ σ.sl + 2 * cap' → (cap' ≤ cap ∨ cap' ≤ 2 * cs.length + 2) → Q (.returned (some (.ref b))) σ') :
    Go z l mt_JStringBuilder_append_0 (d + 12) 0 [.ref b, .int (nI j)] [] σ Q := by
  refine js_JStringBuilder_append_0 (d := d + 3) hB.1 ?_
  refine js_JAbstractStringBuilder_append_0 (d := d + 2) hB.1 ?_
  rw [hB.2.2.2.2.2.1, show nI cs.length + 1 = nI (cs.length + 1) from nI_1 _]
  have hlc := hB.2.2.2.2.2.2.1
  refine bd_ens (d := d) hB hz hzr (by omega) hc (fun σ' r' cap' f1 B1 z1 o1 q1 n1 s1 => ?_)
  intro _
  refine gj_nextV ?_
  refine go_wf fun hw => ?_
  obtain ⟨h1, h2, h3, h4, h5, h6, h7, h8⟩ := B1
  have hbr : b ≠ r' := fun e => by rw [e, h4] at h1; exact absurd h1 (by decide)
  have hcap : cap' ≤ 30000 := by
    rcases s1 with ⟨e, -⟩ | ⟨e, e2, -⟩
    · omega
    · have := (bd_grow_ge e).2.2.1
      omega
  have ec : (σ'.I 88 b).toNatClampNeg = cs.length := by rw [h6]; exact nI_clamp (by omega)
  have e1 : σ'.I 88 b + 1 = nI (cs.length + 1) := by rw [h6]; exact nI_1 _
  refine js_JAbstractStringBuilder_append_0_10 (d := d + 2) h1 h2 h3 hz h4 z1 (fun q => absurd q (show ¬ nI 255 < nI j from nI_nlt (by omega) (by decide))) (fun _ => by rw [h5, h6]; exact vp_in_nI (by omega) (by omega)) (fun _ => ?_)
  intro _
  refine gj_nextI (js_JStringBuilder_append_0_5 (d := d + 3) ?_)
  rw [ec, e1, nar_b hj]
  refine k _ r' cap' ?_ ⟨h1, ?_, h3, h4, h5, ?_, ?_, fun i hi => ?_⟩ z1 o1 n1 ?_ ?_ ?_
  · refine f1.trans (ex2 := fun a => a = b ∨ a = r') (σ2 := (σ'.setI 88 b (nI (cs.length + 1))).rowI r' (va_up (σ'.eI r') cs.length (nI j))) ⟨Nat.le_refl _, Nat.le_refl _, fun a ha hx => (SameC.setI (fun e => hx (Or.inl e))).trans (SameC.rowI (fun e => hx (Or.inr e)))⟩ (fun a _ e => Or.inl e) (fun a ha e => e.elim Or.inl (fun e => ?_))
    rcases o1 with o | o
    · exact Or.inr (e.trans o)
    · omega
  · show (σ'.setI 88 b (nI (cs.length + 1))).I 86 b = 0
    exact (Hp.sI_nf _ _ _ _ (by decide)).trans h2
  · rw [List.length_append]
    show (σ'.setI 88 b (nI (cs.length + 1))).I 88 b = _
    exact Hp.sI _ _ _ _
  · rw [List.length_append]
    exact q1
  · rw [List.length_append] at hi
    have hi' : i < cs.length + 1 := hi
    show ((σ'.setI 88 b (nI (cs.length + 1))).rowI r' (va_up (σ'.eI r') cs.length (nI j))).eI r' i = _
    rw [Hp.rI]
    by_cases e : i = cs.length
    · subst e
      rw [va_up_self, gD_last]
    · rw [va_up_ne _ _ e, gD_app (by omega)]
      exact h8 i (by omega)
  · rcases s1 with ⟨e, -⟩ | ⟨e, e2, -⟩
    · omega
    · have := (bd_grow_ge e).2.1
      omega
  · show σ'.sl + 2 * cap ≤ _
    rcases s1 with ⟨e, e3⟩ | ⟨e, e2, e3⟩
    · omega
    · have := (bd_grow_ge e).2.2.2 (by omega)
      omega
  · rcases s1 with ⟨e, e3⟩ | ⟨e, e2, e3⟩
    · exact Or.inl (by omega)
    · have := (bd_grow_ge e).2.2.2 (by omega)
      exact Or.inr (by omega)
/-- a string more -/
theorem bd_apps {b r cap a : Nat} {cs xs : List Int32} (hB : Bld σ b r cs cap) (hS : Str σ a xs) (hz : z.heap.size ≤ b) (hzr : z.heap.size ≤ r) (hl : cs.length + xs.length ≤ 1002) (hc : cap ≤ 10000) (hsep : ∀ q, σ.A 81 a = some q → q ≠ r)
    (k : ∀ σ' r' cap', Fx (fun a => a = b ∨ a = r) σ σ' → Bld σ' b r' (cs ++ xs) cap' → z.heap.size ≤ r' → (r' = r ∨ σ.nx ≤ r') → σ'.nx ≤ σ.nx + 1 → (cap' ≤ cap ∨ cap' ≤ 2 * (cs.length + xs.length) + 2) → σ'.sl ≤ σ.sl + 2 * (cs.length + xs.length) + 2 → Q (.returned (some (.ref b))) σ') :
    Go z l mt_JStringBuilder_append_2 (d + 12) 0 [.ref b, .ref a] [] σ Q := by
  refine go_wf fun hw0 => ?_
  obtain ⟨s1, s2, q, s3, s4, s5, s6⟩ := hS
  have han : a < σ.nx := hw0.lt (by rw [s1]; decide)
  have hqn : q < σ.nx := hw0.lt (by rw [s4]; decide)
  have hab : a ≠ b := fun e => by rw [e, hB.1] at s1; exact absurd s1 (by decide)
  have hqb : q ≠ b := fun e => by rw [e, hB.1] at s4; exact absurd s4 (by decide)
  refine js_JStringBuilder_append_2 (d := d + 3) hB.1 ?_
  refine js_JAbstractStringBuilder_append_2 (d := d + 2) s1 s3 s4 s2 hB.1 ?_
  rw [hB.2.2.2.2.2.1, shr0, s5, nI_add]
  have hlc := hB.2.2.2.2.2.2.1
  refine bd_ens (d := d) hB hz hzr (by omega) hc (fun σ' r' cap' f1 B1 z1 o1 q1 n1 e1 => ?_)
  intro _
  refine gj_nextV ?_
  refine go_wf fun hw => ?_
  obtain ⟨h1, h2, h3, h4, h5, h6, h7, h8⟩ := B1
  have hbr : b ≠ r' := fun e => by rw [e, h4] at h1; exact absurd h1 (by decide)
  have fa := f1.2.2 a han hab
  have fq := f1.2.2 q hqn hqb
  have hqr : q ≠ r' := fun e => by
    rcases o1 with o | o
    · exact hsep q s3 (e.trans o)
    · omega
  refine js_JAbstractStringBuilder_append_2_24 (d := d + 2) h1 ?_
  rw [h6]
  have t5 : σ'.len q = xs.length := fq.2.1.trans s5
  have ex : (nI xs.length).toNatClampNeg = xs.length := nI_clamp (by omega)
  have ecs : (nI cs.length).toNatClampNeg = cs.length := nI_clamp (by omega)
  refine js_JAbstractStringBuilder_putStringAt (d := d + 1) h1 h2 (fa.1.trans s1) ((fa.2.2.1 82).1.trans s2) h3 ((fa.2.2.1 81).2.2.trans s3) (fq.1.trans s4) h4 z1 (by decide) (by rw [shl0]; exact nI_pos (by omega)) (by rw [t5]; exact nI_pos (by omega)) (by rw [t5, ex, cl_0]; omega) (by rw [shl0, t5, ex, ecs, h5]; exact q1) ?_
  rw [shl0, t5, ex, ecs, cl_0]
  intro _
  refine gj_nextV (js_JAbstractStringBuilder_append_2_33 (d := d + 2) h1 hz ?_)
  intro _
  refine gj_nextI (js_JStringBuilder_append_2_5 (d := d + 3) ?_)
  rw [show (σ'.rowI r' (va_cpy (σ'.eI q) (σ'.eI r') 0 cs.length xs.length)).I 88 b = nI cs.length from h6, nI_add]
  refine k _ r' cap' ?_ ⟨h1, ?_, h3, h4, h5, ?_, ?_, fun i hi => ?_⟩ z1 o1 n1 ?_ ?_
  · refine f1.trans (ex2 := fun a => a = b ∨ a = r') (σ2 := (σ'.rowI r' (va_cpy (σ'.eI q) (σ'.eI r') 0 cs.length xs.length)).setI 88 b (nI (cs.length + xs.length))) ⟨Nat.le_refl _, Nat.le_refl _, fun a ha hx => (SameC.rowI (fun e => hx (Or.inr e))).trans (SameC.setI (fun e => hx (Or.inl e)))⟩ (fun a _ e => Or.inl e) (fun a ha e => e.elim Or.inl (fun e => ?_))
    rcases o1 with o | o
    · exact Or.inr (e.trans o)
    · omega
  · exact (Hp.sI_nf (σ'.rowI r' (va_cpy (σ'.eI q) (σ'.eI r') 0 cs.length xs.length)) (f := 88) b b (nI (cs.length + xs.length)) (by decide)).trans h2
  · rw [List.length_append]
    exact Hp.sI _ _ _ _
  · rw [List.length_append]
    exact q1
  · rw [List.length_append] at hi
    show ((σ'.rowI r' (va_cpy (σ'.eI q) (σ'.eI r') 0 cs.length xs.length)).eI r') i = _
    rw [Hp.rI]
    unfold va_cpy
    by_cases e : i < cs.length
    · rw [if_neg (by omega), h8 i e]
      simp [List.getD, List.getElem?_append_left e]
    · rw [if_pos ⟨by omega, by omega⟩, fq.2.2.2.1, s6 _ (by omega)]
      simp only [List.getD, List.getElem?_append_right (Nat.le_of_not_lt e), Nat.zero_add]
  · rcases e1 with ⟨e, -⟩ | ⟨e, e2, -⟩
    · exact Or.inl (by omega)
    · have := (bd_grow_ge e).2.2.1
      exact Or.inr (by omega)
  · show σ'.sl ≤ _
    rcases e1 with ⟨e, e3⟩ | ⟨e, e2, e3⟩
    · omega
    · have := (bd_grow_ge e).2.2.1
      omega
end Builders2
