/-! ===== read: the two programs change places ===== -/
def swp (i : Nat) : Nat := if 8 ≤ i ∧ i < 12 then i + 4 else if 12 ≤ i ∧ i < 16 then i - 4 else i
theorem swp_swp (i : Nat) : swp (swp i) = i := by
  unfold swp
  by_cases h1 : 8 ≤ i ∧ i < 12
  · rw [if_pos h1, if_neg (by omega), if_pos (by omega)]; omega
  · rw [if_neg h1]
    by_cases h2 : 12 ≤ i ∧ i < 16
    · rw [if_pos h2, if_pos (by omega)]; omega
    · rw [if_neg h2, if_neg h1, if_neg h2]
theorem swp_lt {i : Nat} (h : i < 21) : swp i < 21 := by
  unfold swp
  by_cases h1 : 8 ≤ i ∧ i < 12
  · rw [if_pos h1]; omega
  · rw [if_neg h1]
    by_cases h2 : 12 ≤ i ∧ i < 16
    · rw [if_pos h2]; omega
    · rw [if_neg h2]; exact h
def Wd.turn (w : Wd) : Wd := (fun i => w.I (swp i), fun i => w.J (swp i), fun i => w.A (swp i), fun i => w.eI (swp i), fun i => w.eJ (swp i), fun i => w.eA (swp i))
theorem swp_inj {ad : Nat → Nat} (h : ov_inj ad 21) : ov_inj (fun i => ad (swp i)) 21 := fun i j hi hj e => by
  have := h (swp i) (swp j) (swp_lt hi) (swp_lt hj) e
  rw [← swp_swp i, this, swp_swp]
theorem ovm_swp {α : Type} {ad : Nat → Nat} (h : ov_inj ad 21) (a : Nat) (f : Nat → α) (d : α) : ovm (fun i => ad (swp i)) 21 a (fun i => f (swp i)) d = ovm ad 21 a f d := by
  rcases ovx_cases ad 21 a with ⟨i, hi, rfl⟩ | ⟨hne, hd⟩
  · rw [ovm_at h hi]
    have e : ad i = (fun i => ad (swp i)) (swp i) := by show ad i = ad (swp (swp i)); rw [swp_swp]
    rw [e, ovm_at (swp_inj h) (swp_lt hi), swp_swp]
  · rw [ovm_none hd]
    rcases ovx_cases (fun i => ad (swp i)) 21 a with ⟨i, hi, e⟩ | ⟨-, hd2⟩
    · exact absurd e (hne _ (swp_lt hi))
    · rw [ovm_none hd2]
theorem ov_swp {σ : Hp} {ad : Nat → Nat} {w : Wd} (h : ov_inj ad 21) : ov σ (fun i => ad (swp i)) 21 w.turn = ov σ ad 21 w := by
  have e1 : (fun f a => ovm (fun i => ad (swp i)) 21 a (fun i => w.turn.I i f) (σ.I f a)) = fun f a => ovm ad 21 a (fun i => w.I i f) (σ.I f a) := by
    funext f a; exact ovm_swp h a (fun i => w.I i f) _
  have e2 : (fun f a => ovm (fun i => ad (swp i)) 21 a (fun i => w.turn.J i f) (σ.J f a)) = fun f a => ovm ad 21 a (fun i => w.J i f) (σ.J f a) := by
    funext f a; exact ovm_swp h a (fun i => w.J i f) _
  have e3 : (fun f a => ovm (fun i => ad (swp i)) 21 a (fun i => w.turn.A i f) (σ.A f a)) = fun f a => ovm ad 21 a (fun i => w.A i f) (σ.A f a) := by
    funext f a; exact ovm_swp h a (fun i => w.A i f) _
  have e4 : (fun a => ovm (fun i => ad (swp i)) 21 a w.turn.eI (σ.eI a)) = fun a => ovm ad 21 a w.eI (σ.eI a) := by
    funext a; exact ovm_swp h a w.eI _
  have e5 : (fun a => ovm (fun i => ad (swp i)) 21 a w.turn.eJ (σ.eJ a)) = fun a => ovm ad 21 a w.eJ (σ.eJ a) := by
    funext a; exact ovm_swp h a w.eJ _
  have e6 : (fun a => ovm (fun i => ad (swp i)) 21 a w.turn.eA (σ.eA a)) = fun a => ovm ad 21 a w.eA (σ.eA a) := by
    funext a; exact ovm_swp h a w.eA _
  show (_, _, (fun f a => ovm (fun i => ad (swp i)) 21 a (fun i => w.turn.I i f) (σ.I f a)), _) = _
  unfold ov
  rw [e1, e2, e3, e4, e5, e6]
theorem cw_swp : ∀ i, i < 21 → cw_tag (swp i) = cw_tag i ∧ cw_len (swp i) = cw_len i := by decide +kernel
theorem cl_swp : ∀ q ∈ cl_tab, (q.1 = 0 ∧ q.2.1 = 4 ∧ q.2.2 = 8) ∨ (q.1 = 0 ∧ q.2.1 = 5 ∧ q.2.2 = 12) ∨ ((swp q.1, q.2.1, swp q.2.2) ∈ cl_tab ∧ ¬ (swp q.1 = 0 ∧ (q.2.1 = 4 ∨ q.2.1 = 5))) := by decide +kernel
def Ab.none (a : Ab) : Ab := (a.T, 0, a.2.2)
def sp_rd (a : Ab) : Nat × Int32 × Ab := match sp_read a.T a.n with
  | .error e => (1, 0, (a.T, 0, a.kn, a.R, a.hv, a.X, nI e, a.er))
  | .ok m => (0, nI a.n, (a.T, 0, a.kn, a.R, a.hv, some m, -1, a.er))
section Read
variable {z : State} {l : Launch} {d : Nat} {σ : Hp} {ad : Nat → Nat} {Q : Outcome → Hp → Prop} {op sg : Nat → Nat} {aO aS mO mS : Nat} {w : Wd} {a : Ab}
theorem PP.turn {L : Nat} (h : PP z σ ad op sg aO aS mO mS L) : PP z σ (fun i => ad (swp i)) op sg aO aS mO mS L :=
  ⟨⟨swp_inj h.1.1, fun i hi => by
    have h1 := h.1.2 (swp i) (swp_lt hi)
    have h2 := cw_swp i hi
    exact ⟨h1.1.trans h2.1, h1.2.1.trans h2.2, h1.2.2⟩⟩, h.2⟩
theorem ac_read (hI : CI z σ ad op sg aO aS mO mS w a) (ha : a.n ≤ 1000) (hOw : 0 < a.n → OpW z σ op) (k0 : (sp_rd a).1 = 0 → ∀ ad' w', ad' 0 = ad 0 → (∀ i, i < 21 → ∃ j, j < 21 ∧ ad' i = ad j) → CI z σ ad' op sg aO aS mO mS w' (sp_rd a).2.2 → Q (.returned (some (.int (sp_rd a).2.1))) (ov σ ad' 21 w')) (k1 : (sp_rd a).1 = 1 → ∀ w', CI z σ ad op sg aO aS mO mS w' (sp_rd a).2.2 → Q (.threw σ.nx) (ov (σ.newO 16 6) ad 21 w')) : Go z l mt_T_read (d + 401) 0 [.ref (ad 0), .retAddr 0, .retAddr 0] [] (ov σ ad 21 w) Q := by
  obtain ⟨c1, c2, c3, c4, c5, ⟨S, c6, c7, c8⟩, c9, c10, c11, ⟨ko, c12⟩, ⟨ko2, c13⟩⟩ := hI
  refine cs_T_read (d := d + 392) c1.1 c2 ?_
  rw [c3]
  -- what stays behind parse
  have keep : ∀ w2 : Wd, RF (w.setI 0 1 0) w2 → w2.I 0 1 = 0 ∧ w2.eI 1 = a.T ∧ (∀ r, r < 8 → w2.eI 2 r = a.kn r) ∧ SLS w2 S ∧ w2.I 0 10 = a.er ∧ w2.I 8 19 = w.I 8 19 ∧ w2.eA 9 = w.eA 9 ∧ w2.eJ 10 = w.eJ 10 ∧ w2.eI 11 = w.eI 11 := fun w2 f => by
    refine ⟨(f.1 0 1 (by decide) (by decide) (by decide)), (f.2.2.2.1 1 (by decide)).trans c4, fun r hr => ?_, fun s hs => ?_, (f.1 0 10 (by decide) (by decide) (by decide)).trans c10, f.1 8 19 (by decide) (by decide) (by decide), f.2.2.2.2.2 9 (by decide), f.2.2.2.2.1 10 (by decide), f.2.2.2.1 11 (by decide)⟩
    · rw [f.2.2.2.1 2 (by decide)]; exact c5 r hr
    · have := c6 s hs
      unfold SL at this ⊢
      rw [f.2.2.2.1 4 (by decide), f.2.2.2.1 6 (by decide), f.2.2.2.2.1 5 (by decide)]
      exact this
  refine rg_parse (d := d) (w := w.setI 0 1 0) (T := a.T) (L := a.n) (ko := ko2) ⟨c1.1, c1.2.1, c1.2.2.1, c1.2.2.2.1, hOw⟩ c2 c4 ha c13 (fun m hm w2 n c ko' f2 l2 i2 hn hc r2 R2 _ => gj_nextI ?_) (fun e he h9 w2 ko' f2 l2 r2 _ => gj_nextI ?_)
  · obtain ⟨p1, p2, p3, p4, p5, p6, p7, p8, p9⟩ := keep w2 f2
    have e : sp_rd a = (0, nI a.n, (a.T, 0, a.kn, a.R, a.hv, some m, -1, a.er)) := by rw [sp_rd, hm]
    rw [e] at k0
    refine cs_T_read_23 (d := d + 392) c1.1 l2 (fun _ => ?_) (fun h => absurd rfl h)
    rw [← ov_swp c1.1.1]
    refine k0 rfl _ _ rfl (fun i hi => ⟨swp i, swp_lt hi, rfl⟩) ⟨c1.turn, fun q hq => ?_, p1, p2, p3, ⟨S, p4, c7, c8⟩, rfl, p5, ?_, ⟨ko', r2⟩, ⟨ko, fun j hj => ?_⟩⟩
    · rcases cl_swp q hq with ⟨h1, h2, h3⟩ | ⟨h1, h2, h3⟩ | ⟨h1, h2⟩
      · rw [h1, h2, h3]; rfl
      · rw [h1, h2, h3]; rfl
      · show up22 (up22 w2.A 0 4 (some (ad 12))) 0 5 (some (ad 8)) (swp q.1) q.2.1 = some (ad (swp q.2.2))
        rw [up22_eq, if_neg (fun h => h2 ⟨h.1, Or.inr h.2⟩), up22_eq, if_neg (fun h => h2 ⟨h.1, Or.inl h.2⟩)]
        exact l2 _ h1
    · exact ⟨n, c, ko', R2.1, hn, hc, i2, fun j hj => r2 j (by omega), R2, w_read hm⟩
    · show w2.eA 9 j = _ ∧ _
      rw [p7]
      exact c12 j hj
  · obtain ⟨p1, p2, p3, p4, p5, p6, p7, p8, p9⟩ := keep w2 f2
    have er : sp_rd a = (1, 0, (a.T, 0, a.kn, a.R, a.hv, a.X, nI e, a.er)) := by rw [sp_rd, he]
    rw [er] at k1
    refine cs_T_read_23 (d := d + 392) c1.1 l2 (fun h => absurd h (n1_ne h9)) (fun _ => k1 rfl _ ⟨c1, l2, p1, p2, p3, ⟨S, p4, c7, c8⟩, rfl, p5, ?_, ⟨ko, fun j hj => ?_⟩, ⟨ko', r2⟩⟩)
    · show PG op (w2.setI 0 9 (nI e)) a.X
      cases hx : a.X with
      | none =>
        rw [hx] at c11
        exact p6.trans c11
      | some m =>
        rw [hx] at c11
        obtain ⟨len, c, ko0, g1, g2, g3, g4, g5, g6, g7⟩ := c11
        refine ⟨len, c, ko0, g1, g2, g3, p6.trans g4, ?_, ?_, g7⟩
        · show ∀ j, j < len → w2.eA 9 j = _ ∧ _
          rw [p7]; exact g5
        · show Rep m 0 len c ko0 (w2.eJ 10) (w2.eI 11)
          rw [p8, p9]; exact g6
    · show w2.eA 9 j = _ ∧ _
      rw [p7]; exact c12 j hj
end Read
