/-! ===== lists of parts ===== -/
/-- a chain of jumps: the latest first, each one's argument is the one before -/
def Lk (ar : Nat → Int64) : List Nat → Int32 → Prop
  | [], j => j = -1
  | q :: r, j => j = nI q ∧ (∀ x ∈ r, x < q) ∧ Lk ar r (ar q).toInt32
theorem Lk.mono {ar ar' : Nat → Int64} : ∀ {qs : List Nat} {j : Int32}, Lk ar qs j → (∀ q ∈ qs, ar' q = ar q) → Lk ar' qs j
  | [], j, h, _ => h
  | q :: r, j, h, k => ⟨h.1, h.2.1, by rw [k q List.mem_cons_self]; exact Lk.mono h.2.2 (fun x hx => k x (List.mem_cons_of_mem _ hx))⟩
section Aims
variable {z : State} {l : Launch} {σ : Hp} {ad : Nat → Nat} {op sg : Nat → Nat} {aO aS mO mS : Nat} {T : Nat → Int32} {L : Nat}
theorem cg_aimL_loop {d : Nat} {Q : Outcome → Hp → Prop} {p ops n c t : Nat} {ko : Nat → Nat} {x1 : Int32} (hp : PP z σ ad op sg aO aS mO mS L) (ht : t ≤ 1000) : ∀ (qs : List Nat) (i : Nat) (w : Wd) (j : Int32), GS ad op sg T L w p ops n c ko → Lk (w.eJ 14) qs j → (∀ q ∈ qs, q < n) → i + qs.length ≤ n → (∀ w', PF w w' → GS ad op sg T L w' p ops n c ko → (∀ x, w'.eJ 14 x = if x ∈ qs then lN t else w.eJ 14 x) → w'.eI 15 = w.eI 15 → Q (.returned none) (ov σ ad 21 w')) → Go z l mt_G_aim (d + 9) 5 [.ref (ad 12), .int x1, .int (nI t), .int j, .int (nI i), .retAddr 0] [] (ov σ ad 21 w) Q := by
  intro qs
  induction qs with
  | nil =>
    intro i w j hG hL hq hi k
    have hj : j = -1 := hL
    subst hj
    have fin := k w (PF.refl w) hG (fun x => by rw [if_neg List.not_mem_nil]) rfl
    exact cs_G_aim_5 (d := d) hp.1 hG.1.1 (fun _ => fin) (fun _ _ => fin) (fun _ h => absurd (by decide) h) (fun _ h => absurd (by decide) h) (fun _ h => absurd (by decide) h)
  | cons q r ih =>
    intro i w j hG hL hq hi k
    have h1000 := gs_1000 hG
    obtain ⟨hj, hlt, hL⟩ := hL
    subst hj
    have hqn := hq q List.mem_cons_self
    have g7 := hG.2.2.2.2.2.2.1
    have hlen : (q :: r).length = r.length + 1 := rfl
    have q1 : ¬ w.I 12 19 ≤ nI i := by rw [g7]; exact nI_ge (by omega) (by omega)
    have q2 : ¬ nI q < 0 := nI_pos (by omega)
    have q3 : ¬ w.I 12 19 ≤ nI q := by rw [g7]; exact nI_ge (by omega) (by omega)
    refine cs_G_aim_5 (d := d) hp.1 hG.1.1 (fun h => absurd h q1) (fun _ h => absurd h q2) (fun _ _ h => absurd h q3) (fun _ _ _ => vp_in_nI (by omega) (by omega)) (fun _ _ _ => ?_)
    rw [nI_clamp (by omega : q < 2 ^ 31), lN_ofI ht, nI_1]
    have hG2 : GS ad op sg T L (w.rowJ 14 (va_up (w.eJ 14) q (lN t))) p ops n c ko := hG
    refine go_drop 5 (ih (i + 1) (w.rowJ 14 (va_up (w.eJ 14) q (lN t))) _ hG2 (hL.mono (fun x hx => hp_up_ne _ _ (Nat.ne_of_lt (hlt x hx)))) (fun x hx => hq x (List.mem_cons_of_mem _ hx)) (by omega) (fun w' hf hG' hr hr2 => k w' ((pf_14 _ _).trans hf) hG' (fun x => ?_) hr2))
    rw [hr x]
    by_cases hx : x ∈ r
    · rw [if_pos hx, if_pos (List.mem_cons_of_mem _ hx)]
    · rw [if_neg hx]
      show va_up (w.eJ 14) q (lN t) x = _
      by_cases hxq : x = q
      · subst hxq
        rw [hp_up_same, if_pos List.mem_cons_self]
      · rw [hp_up_ne _ _ hxq, if_neg (fun h => by
          rcases List.mem_cons.mp h with h | h
          · exact hxq h
          · exact hx h)]
theorem cg_aimL {d : Nat} {Q : Outcome → Hp → Prop} {w : Wd} {p ops n c t : Nat} {ko : Nat → Nat} {j : Int32} {qs : List Nat} (hp : PP z σ ad op sg aO aS mO mS L) (ht : t ≤ 1000) (hG : GS ad op sg T L w p ops n c ko) (hL : Lk (w.eJ 14) qs j) (hq : ∀ q ∈ qs, q < n) (hn : qs.length ≤ n) (k : ∀ w', PF w w' → GS ad op sg T L w' p ops n c ko → (∀ x, w'.eJ 14 x = if x ∈ qs then lN t else w.eJ 14 x) → w'.eI 15 = w.eI 15 → Q (.returned none) (ov σ ad 21 w')) : Go z l mt_G_aim (d + 9) 0 [.ref (ad 12), .int j, .int (nI t), .retAddr 0, .retAddr 0, .retAddr 0] [] (ov σ ad 21 w) Q :=
  cs_G_aim (d := d) hp.1 (cg_aimL_loop (d := d) hp ht qs 0 w j hG hL hq (by omega) k)
end Aims
/-- the parts of a list so far: each with the step st behind it (none if st is 0); the latest jump -/
def LSt (st c : Nat) (ko : Nat → Nat) (ar : Nat → Int64) (ch : Nat → Int32) (ms : List Ex) (a0 n : Nat) (j : Int32) (qs : List Nat) : Prop :=
  (st = 0 ∧ PN c ko ar ch ms a0 n ∧ j = -1 ∧ qs = []) ∨ (¬ st = 0 ∧ ∃ ps, ps.map Prod.fst = ms ∧ PS st c ko ar ch ps a0 n ∧ qs = (ps.map Prod.snd).reverse ∧ Lk ar qs j)
theorem LSt.mono {st c c' : Nat} {ko ko' : Nat → Nat} {ar ar' : Nat → Int64} {ch ch' : Nat → Int32} {ms : List Ex} {a0 n : Nat} {j : Int32} {qs : List Nat} (h : LSt st c ko ar ch ms a0 n j qs) (h1 : ∀ x, a0 ≤ x → x < n → ko' x = ko x ∧ ar' x = ar x) (h2 : ∀ x, x < c → ch' x = ch x) (h3 : c ≤ c') : LSt st c' ko' ar' ch' ms a0 n j qs := by
  rcases h with ⟨a, b, cc, e⟩ | ⟨a, ps, b, cc, e, f⟩
  · exact Or.inl ⟨a, b.mono h2 h3 h1, cc, e⟩
  · have hlo := ps_lo cc
    refine Or.inr ⟨a, ps, b, cc.mono h2 h3 (fun x a1 a2 => (h1 x a1 a2).1) (fun x a1 a2 _ => (h1 x a1 a2).2), e, f.mono (fun q hq => ?_)⟩
    rw [e, List.mem_reverse] at hq
    exact (h1 q (hlo q hq).1 (hlo q hq).2).2
theorem LSt.lo {st c : Nat} {ko : Nat → Nat} {ar : Nat → Int64} {ch : Nat → Int32} {ms : List Ex} {a0 n : Nat} {j : Int32} {qs : List Nat} (h : LSt st c ko ar ch ms a0 n j qs) : (∀ q ∈ qs, a0 ≤ q ∧ q < n) ∧ qs.length ≤ n - a0 ∧ a0 ≤ n := by
  rcases h with ⟨a, b, cc, e⟩ | ⟨a, ps, b, cc, e, f⟩
  · subst e
    exact ⟨fun q hq => absurd hq List.not_mem_nil, Nat.zero_le _, b.le⟩
  · have hlo := ps_lo cc
    refine ⟨fun q hq => hlo q (by rw [e, List.mem_reverse] at hq; exact hq), ?_, cc.le⟩
    rw [e, List.length_reverse, List.length_map]
    clear hlo f e b
    induction ps generalizing a0 with
    | nil => exact Nat.zero_le _
    | cons x r ih =>
      obtain ⟨m, q⟩ := x
      have h1 := cc.1.1
      have h2 := cc.2.2.le
      have h3 := ih cc.2.2
      show r.length + 1 ≤ n - a0
      omega
