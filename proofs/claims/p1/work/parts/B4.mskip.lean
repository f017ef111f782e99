/-! ===== the reference's scanner: blanks ===== -/
section MSkip
variable {z : State} {l : Launch} {M : Mt} {d pc : Nat} {st : List Value} {σ : Hp} {am : Nat → Nat} {w : Wd} {Q : Outcome → Hp → Prop} {T : Nat → Int32} {L sa : Nat}
theorem fgt4 {a b u v : Value} (k : Go z l M d pc [a, b, .retAddr 0, .retAddr 0] st σ Q) : Go z l M d pc [a, b, u, v] st σ Q :=
  go_fgt (ls2 := [a, b, .retAddr 0, .retAddr 0]) rfl (fun j x hv hne => by
    match j, hv with
    | 0, hv => exact hv
    | 1, hv => exact hv
    | 2, hv => exact absurd (Option.some.inj hv).symm hne
    | 3, hv => exact absurd (Option.some.inj hv).symm hne
    | _ + 4, hv => cases hv) k
theorem fgt3 {a b u : Value} (k : Go z l M d pc [a, b, .retAddr 0] st σ Q) : Go z l M d pc [a, b, u] st σ Q :=
  go_fgt (ls2 := [a, b, .retAddr 0]) rfl (fun j x hv hne => by
    match j, hv with
    | 0, hv => exact hv
    | 1, hv => exact hv
    | 2, hv => exact absurd (Option.some.inj hv).symm hne
    | _ + 3, hv => cases hv) k
theorem fgt2 {a u : Value} (k : Go z l M d pc [a, .retAddr 0] st σ Q) : Go z l M d pc [a, u] st σ Q :=
  go_fgt (ls2 := [a, .retAddr 0]) rfl (fun j x hv hne => by
    match j, hv with
    | 0, hv => exact hv
    | 1, hv => exact absurd (Option.some.inj hv).symm hne
    | _ + 2, hv => cases hv) k
theorem PM.lei {i : Nat} (h : PM z σ am w T L sa) (hi : i ≤ 5000) : w.I 0 43 ≤ nI i ↔ L ≤ i := by
  obtain ⟨h1, h2, h3, -, h5, h6, -⟩ := h
  rw [h5]
  constructor
  · intro q
    rcases Nat.lt_or_ge i L with e | e
    · exact absurd q (nI_ge e (by omega))
    · exact e
  · exact fun q => nI_le q (by omega)
/-- what comes behind the blanks -/
def MK (z : State) (l : Launch) (d : Nat) (σ : Hp) (am : Nat → Nat) (w : Wd) (Q : Outcome → Hp → Prop) (T : Nat → Int32) (L s : Nat) : Prop :=
  Go z l mt_M_next (d + 10) 106 [.ref (am 0), .int (nI s), .retAddr 0, .retAddr 0] [.int (atv T L s)] (ov σ am 7 ((w.setI 0 45 (nI s)).setI 0 46 (nI s))) Q
theorem MK.at {p : Nat} {u v : Value} (h : PM z σ am w T L sa) (hp : p ≤ 5000) (k : MK z l d σ am w Q T L p) : Go z l mt_M_at (d + 9) 0 [.ref (am 0), .int (nI p)] [] (ov σ am 7 ((w.setI 0 45 (nI p)).setI 0 46 (nI p))) (fun o σ1 => hp_Le (ov σ am 7 ((w.setI 0 45 (nI p)).setI 0 46 (nI p))) σ1 → gj_next z l mt_M_next (d + 10) 103 [.ref (am 0), .int (nI p), u, v] [] Q o σ1) :=
  mo_at (d := d) (h.w ((SS.setI w _ (by decide) (by decide)).trans (SS.setI _ _ (by decide) (by decide)))) hp (fun _ => gj_nextI (fgt4 k))
/-- a blank -/
theorem mo_blank {p : Nat} {u v : Value} (h : PM z σ am w T L sa) (hp : p < L) (hb : sc_blank (T p)) (hn : ¬ T p = 45) (k : Go z l mt_M_next (d + 10) 5 [.ref (am 0), .int (nI (p + 1)), .retAddr 0, .retAddr 0] [] (ov σ am 7 w) Q) : Go z l mt_M_next (d + 10) 5 [.ref (am 0), .int (nI p), u, v] [] (ov σ am 7 w) Q := by
  have hL := h.2.2.2.2.2.1
  have hT := h.2.2.2.2.2.2.1
  refine fgt4 (cm_M_next_5 (d := d + 1) h.1 (fun q => absurd ((h.lei (by omega)).mp q) (by omega)) (fun _ => mo_at (d := d) h (by omega) (fun _ => gj_nextI ?_)))
  have k' : ∀ u9 v9, Go z l mt_M_next (d + 10) 5 [.ref (am 0), .int (nI p + 1), u9, v9] [] (ov σ am 7 w) Q := fun u9 v9 => by rw [nI_1]; exact fgt4 k
  have n45 : ¬ atv T L p = 45 := fun q => hn (((atv_eq (c := 45) hT (by decide)).mp q).2)
  refine cm_M_next_18 (d := d + 1) h.1 (fun _ _ => k' _ _) (fun _ _ _ => k' _ _) (fun _ _ _ _ => k' _ _) (fun _ a b c d9 => ?_) (fun _ _ _ _ _ => k' _ _) (fun q => absurd q n45)
  exfalso
  rcases hb with e | e | e | e
  · exact a ((atv_eq (c := 32) hT (by decide)).mpr ⟨hp, e⟩)
  · exact b ((atv_eq (c := 9) hT (by decide)).mpr ⟨hp, e⟩)
  · exact c ((atv_eq (c := 10) hT (by decide)).mpr ⟨hp, e⟩)
  · exact d9 ((atv_eq (c := 13) hT (by decide)).mpr ⟨hp, e⟩)
theorem mo_skip (h : PM z σ am w T L sa) : ∀ (n p : Nat), L ≤ p + n → p ≤ 3000 →
    (MK z l d σ am w Q T L (sc_skip T L n false p) → ∀ u v : Value, Go z l mt_M_next (d + 10) 5 [.ref (am 0), .int (nI p), u, v] [] (ov σ am 7 w) Q) ∧
    (MK z l d σ am w Q T L (sc_skip T L n true p) → ∀ c : Int32, Go z l mt_M_next (d + 10) 37 [.ref (am 0), .int (nI p), .int c, .retAddr 0] [] (ov σ am 7 w) Q) := by
  have hL := h.2.2.2.2.2.1
  have hT := h.2.2.2.2.2.2.1
  have out : ∀ p, p ≤ 3000 → L ≤ p → MK z l d σ am w Q T L p → ∀ u v : Value, Go z l mt_M_next (d + 10) 5 [.ref (am 0), .int (nI p), u, v] [] (ov σ am 7 w) Q := fun p hp hlp k u v =>
    fgt4 (cm_M_next_5 (d := d + 1) h.1 (fun _ => MK.at h (by omega) k) (fun q => absurd ((h.lei (by omega)).mpr hlp) q))
  have out2 : ∀ p, p ≤ 3000 → L ≤ p → MK z l d σ am w Q T L p → ∀ c : Int32, Go z l mt_M_next (d + 10) 37 [.ref (am 0), .int (nI p), .int c, .retAddr 0] [] (ov σ am 7 w) Q := fun p hp hlp k c =>
    cm_M_next_37 (d := d + 1) h.1 (fun _ => out p hp hlp k _ _) (fun q => absurd ((h.lei (by omega)).mpr hlp) q)
  intro n
  induction n with
  | zero => exact fun p hp hp3 => ⟨fun k => out p hp3 (by omega) k, fun k => out2 p hp3 (by omega) k⟩
  | succ n ih =>
    intro p hp hp3
    by_cases hlp : L ≤ p
    · refine ⟨fun k => out p hp3 hlp ?_, fun k => out2 p hp3 hlp ?_⟩
      · rw [sc_skip, if_pos hlp] at k; exact k
      · rw [sc_skip, if_pos hlp] at k; exact k
    · have hlt : p < L := by omega
      have e9 := h.lei (i := p) (by omega)
      have comment : ∀ c : Int32, MK z l d σ am w Q T L (sc_skip T L n true (p + 1)) → ¬ T p = 10 → Go z l mt_M_next (d + 10) 37 [.ref (am 0), .int (nI p), .int c, .retAddr 0] [] (ov σ am 7 w) Q := fun c k hne =>
        cm_M_next_37 (d := d + 1) h.1 (fun q => absurd (e9.mp q) hlp) (fun _ => mo_at (d := d) h (by omega) (fun _ => gj_nextI (cm_M_next_50 (d := d + 1) h.1 (fun q => absurd ((atv_eq (c := 10) hT (by decide)).mp q).2 hne) (fun _ => by rw [nI_1]; exact (ih (p + 1) (by omega) (by omega)).2 k c))))
      refine ⟨fun k u v => ?_, fun k c => ?_⟩
      · rw [sc_skip, if_neg hlp, if_neg (by decide)] at k
        by_cases hd : T p = 45 ∧ p + 1 < L ∧ T (p + 1) = 45
        · rw [if_pos hd] at k
          refine fgt4 (cm_M_next_5 (d := d + 1) h.1 (fun q => absurd (e9.mp q) hlp) (fun _ => mo_at (d := d) h (by omega) (fun _ => gj_nextI ?_)))
          have e45 : atv T L p = 45 := (atv_eq (c := 45) hT (by decide)).mpr ⟨hlt, hd.1⟩
          refine cm_M_next_18 (d := d + 1) h.1 (fun q => absurd e45 q) (fun q => absurd e45 q) (fun q => absurd e45 q) (fun q => absurd e45 q) (fun q => absurd e45 q) (fun _ => ?_)
          rw [nI_1]
          refine mo_at (d := d) h (by omega) (fun _ => gj_nextI ?_)
          have e46 : atv T L (p + 1) = 45 := (atv_eq (c := 45) hT (by decide)).mpr hd.2
          exact cm_M_next_32 (d := d + 1) h.1 (fun q => absurd e46 q) (fun q => absurd e46 q) (fun q => absurd e46 q) (fun q => absurd e46 q) (fun q => absurd e46 q) (fun _ => comment _ k (by rw [hd.1]; decide))
        · rw [if_neg hd] at k
          by_cases hb : sc_blank (T p)
          · rw [if_pos hb] at k
            exact mo_blank h hlt hb (fun q => by rw [q] at hb; exact absurd hb (by decide)) ((ih (p + 1) (by omega) (by omega)).1 k _ _)
          · rw [if_neg hb] at k
            have b1 : ¬ atv T L p = 32 := fun q => hb (Or.inl ((atv_eq (c := 32) hT (by decide)).mp q).2)
            have b2 : ¬ atv T L p = 9 := fun q => hb (Or.inr (Or.inl ((atv_eq (c := 9) hT (by decide)).mp q).2))
            have b3 : ¬ atv T L p = 10 := fun q => hb (Or.inr (Or.inr (Or.inl ((atv_eq (c := 10) hT (by decide)).mp q).2)))
            have b4 : ¬ atv T L p = 13 := fun q => hb (Or.inr (Or.inr (Or.inr ((atv_eq (c := 13) hT (by decide)).mp q).2)))
            refine fgt4 (cm_M_next_5 (d := d + 1) h.1 (fun q => absurd (e9.mp q) hlp) (fun _ => mo_at (d := d) h (by omega) (fun _ => gj_nextI ?_)))
            refine cm_M_next_18 (d := d + 1) h.1 (fun _ q => absurd q b1) (fun _ _ q => absurd q b2) (fun _ _ _ q => absurd q b3) (fun _ _ _ _ _ => MK.at h (by omega) k) (fun _ _ _ _ q => absurd q b4) (fun q => ?_)
            rw [nI_1]
            refine mo_at (d := d) h (by omega) (fun _ => gj_nextI ?_)
            have e46 : ¬ atv T L (p + 1) = 45 := fun q2 => hd ⟨((atv_eq (c := 45) hT (by decide)).mp q).2, (atv_eq (c := 45) hT (by decide)).mp q2⟩
            exact cm_M_next_32 (d := d + 1) h.1 (fun _ q => absurd q b1) (fun _ _ q => absurd q b2) (fun _ _ _ q => absurd q b3) (fun _ _ _ _ _ => MK.at h (by omega) k) (fun _ _ _ _ q => absurd q b4) (fun q => absurd q e46)
      · rw [sc_skip, if_neg hlp, if_pos rfl] at k
        by_cases h10 : T p = 10
        · rw [decide_eq_false (fun q => q h10)] at k
          refine cm_M_next_37 (d := d + 1) h.1 (fun q => absurd (e9.mp q) hlp) (fun _ => mo_at (d := d) h (by omega) (fun _ => gj_nextI ?_))
          refine cm_M_next_50 (d := d + 1) h.1 (fun _ => ?_) (fun q => absurd ((atv_eq (c := 10) hT (by decide)).mpr ⟨hlt, h10⟩) q)
          exact mo_blank h hlt (Or.inr (Or.inr (Or.inl h10))) (by rw [h10]; decide) ((ih (p + 1) (by omega) (by omega)).1 k _ _)
        · rw [decide_eq_true h10] at k
          exact comment c k h10
end MSkip
