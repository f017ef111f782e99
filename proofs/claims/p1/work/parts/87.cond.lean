/-! ===== comparison, condition ===== -/
section Cond
variable {z : State} {l : Launch} {σ : Hp} {ad : Nat → Nat} {op sg : Nat → Nat} {aO aS mO mS : Nat} {T : Nat → Int32} {L : Nat} {E k : Nat}
theorem of_cmp {d g : Nat} {w : Wd} {Q : Outcome → Hp → Prop} (hp : PP z σ ad op sg aO aS mO mS L) (hg : g < 35) (kq : Q (.returned (some (.ref (op (og_cmp g))))) (ov σ ad 21 w)) : Go z l mt_P_comparisonOf (d + 9) 0 [.ref (sg g)] [] (ov σ ad 21 w) Q := by
  have key : ∀ o, og_cmp g = o → Q (.returned (some (.ref (op o)))) (ov σ ad 21 w) := fun o h => by rw [← h]; exact kq
  exact cs_P_comparisonOf (d := d) hp.1 hp.2.1 hg (fun h => key _ ((by decide +kernel : ∀ g, g < 35 → ((sg_map.getD g 0).toInt < 9 ∨ 14 < (sg_map.getD g 0).toInt) → og_cmp g = 0) g hg h)) (fun h => key _ ((by decide +kernel : ∀ g, g < 35 → sg_map.getD g 0 = 9 → og_cmp g = 20) g hg h)) (fun h => key _ ((by decide +kernel : ∀ g, g < 35 → sg_map.getD g 0 = 10 → og_cmp g = 21) g hg h)) (fun h => key _ ((by decide +kernel : ∀ g, g < 35 → sg_map.getD g 0 = 11 → og_cmp g = 22) g hg h)) (fun h => key _ ((by decide +kernel : ∀ g, g < 35 → sg_map.getD g 0 = 12 → og_cmp g = 23) g hg h)) (fun h => key _ ((by decide +kernel : ∀ g, g < 35 → sg_map.getD g 0 = 13 → og_cmp g = 24) g hg h)) (fun h => key _ ((by decide +kernel : ∀ g, g < 35 → sg_map.getD g 0 = 14 → og_cmp g = 25) g hg h))
theorem og_cmp_ok : ∀ g, g < 35 → ¬ og_cmp g = 0 → g ≠ 33 ∧ 20 ≤ og_cmp g ∧ og_cmp g ≤ 25 := by decide +kernel
section CondB
theorem tb_each (hp : PP z σ ad op sg aO aS mO mS L) {d e t o : Nat} {w : Wd} {v1 v4 : Value} {Q : Outcome → Hp → Prop} (ht : t ≤ 100) (hW : BS ad op sg w e) (hv4 : True) (kk : ∀ w', PF w w' → BS ad op sg w' e → Q (.returned none) (ov σ ad 21 w')) (hv1 : v1 = .int (nI k)) : Go z l mt_P_addEach (d + E + 44) 0 [.ref (ad 16), .ref (op 16), .int (nI t), .retAddr 0] [] (ov σ ad 21 w) (fun o' σ1 => hp_Le (ov σ ad 21 w) σ1 → gj_next z l mt_P_comparison (d + E + 45) 271 [.ref (ad 16), v1, .ref (op o), .int (nI t), v4] [] Q o' σ1) := by
  subst hv1
  exact cb_each (d := d + E + 34) hp (by decide) hW ht (fun w1 f1 B1 _ => gj_nextV (go_drop 4 (cs_P_comparison_274 (d := d + E + 36) hp.1 hp.2.1 (kk w1 f1 B1))))
theorem rb_comparison (hp : PP z σ ad op sg aO aS mO mS L) : RB z l σ ad op sg mt_P_comparison [.ref (ad 16), .int (nI k), .retAddr 0, .retAddr 0, .retAddr 0] E 45 := by
  intro d w e Q hW kk
  obtain ⟨b1, b2, b3, n0, ko0, b4, -, -⟩ := id hW
  have ne : ∀ g, g < 34 → ¬ some (sg 34) = some (sg g) := fun g h => sg_ne hp.2.1 (by decide) (by omega) (by omega)
  refine cs_P_comparison (d := d + E + 36) hp.1 hp.2.1 b4.1 b1 (of_cmp (d := d + E + 35) hp (by decide) (fun _ => gj_nextI ?_))
  exact cs_P_comparison_10 (d := d + E + 36) (s0 := 0) hp.1 hp.2.1 b4.1 b1 (fun _ _ _ _ _ _ => tb_each hp (t := 0) (by decide) hW trivial kk rfl) (fun _ _ _ _ _ h => absurd h (ne 7 (by decide))) (fun _ _ _ _ h => absurd h (ne 6 (by decide))) (fun _ _ _ h => absurd h (ne 5 (by decide))) (fun _ _ h => absurd h (ne 2 (by decide))) (fun _ h => absurd h (ne 3 (by decide))) (fun h => absurd rfl h)
end CondB
section CondG
variable {F : Nat → Nat → Pr}
section Fin
/-- what came out, with NOT behind it t times -/
theorem cmp_fin (hp : PP z σ ad op sg aO aS mO mS L) {d t o n0 : Nat} {w w1 w2 : Wd} {p pw ops n c : Nat} {ko : Nat → Nat} {v4 : Value} {Q : Outcome → Hp → Prop} {r : Pr} (hf1 : NF w w1) (ht : t ≤ 1) (hn : n ≤ tk_s T L p) (hq : tk_s T L p + t ≤ tk_s T L pw) (hPO : PO ad op sg T L w1 pw ops n0 n c ko r w2)
    (kk : ∀ w', PO ad op sg T L w p ops n0 n c ko (match r with
      | .error e => .error e
      | .ok (m, p2, o2) => .ok (ex_it 16 t m, p2, o2)) w' → Q (.returned none) (ov σ ad 21 w')) :
    Go z l mt_P_addEach (d + E + 44) 0 [.ref (ad 16), .ref (op 16), .int (nI t), .retAddr 0] [] (ov σ ad 21 w2) (fun o' σ1 => hp_Le (ov σ ad 21 w2) σ1 → gj_next z l mt_P_comparison (d + E + 45) 271 [.ref (ad 16), .int (nI k), .ref (op o), .int (nI t), v4] [] Q o' σ1) := by
  have ej1 : w1.eJ 14 = w.eJ 14 := by rw [hf1.2.2.2.2.1]
  have ei1 : w1.eI 15 = w.eI 15 := by rw [hf1.2.2.2.1]
  cases r with
  | error e => exact tb_each hp (by omega) hPO.2 trivial (fun w3 f3 B3 => kk w3 (po_err rfl ((PF.nf hf1).trans (hPO.1.trans f3)) B3)) rfl
  | ok x =>
    obtain ⟨m, p2, o2⟩ := x
    obtain ⟨f2, ho, n2, c2, ko2, G2, R2, g2⟩ := hPO
    have gg := g2.2.2
    refine cg_each (d := d + E + 34) hp (.inl rfl) G2 R2 (by omega) (fun w3 ko3 f3 G3 R3 k3 r3 _ => gj_nextV (go_drop 4 (cs_P_comparison_274 (d := d + E + 36) hp.1 hp.2.1 (kk w3 (po_ok rfl ((PF.nf hf1).trans (f2.trans f3)) ho G3 R3 ⟨fun x hx => ?_, fun x hx => ?_, by omega, by omega, by omega, by omega⟩)))))
    · rw [(k3 x (by omega)).1, (k3 x (by omega)).2, (g2.1 x hx).1, (g2.1 x hx).2, ej1]
      exact ⟨rfl, rfl⟩
    · rw [r3, g2.2.1 x hx, ei1]
end Fin
section Two
/-- a second S, then a step of two parts -/
theorem cmp_sum (hp : PP z σ ad op sg aO aS mO mS L) (hFs : RG z l σ ad op sg T L mt_P_sum [.ref (ad 16), .int (nI k), .retAddr 0, .retAddr 0] E 44 F) {d : Nat} {w : Wd} {p ops n c : Nat} {ko : Nat → Nat} {kx : Outcome → Hp → Prop} (hG : GS ad op sg T L w p ops n c ko)
    (ker : ∀ e, F p ops = .error e → ∀ w', PF w w' → BS ad op sg w' e → kx (.returned none) (ov σ ad 21 w'))
    (kok : ∀ b p2 o2, F p ops = .ok (b, p2, o2) → ∀ w' n' c' ko', PF w w' → ops ≤ o2 → GS ad op sg T L w' p2 o2 n' c' ko' → Rep b n n' c' ko' (w'.eJ 14) (w'.eI 15) → Gr T L w w' p p2 n n' c c' ko ko' → kx (.returned none) (ov σ ad 21 w')) : Go z l mt_P_sum (d + E + 44) 0 [.ref (ad 16), .int (nI k), .retAddr 0, .retAddr 0] [] (ov σ ad 21 w) kx := by
  refine hFs d w p ops n c ko _ hG (fun w1 hPO => ?_)
  cases hr : F p ops with
  | error e => rw [hr] at hPO; exact ker e hr w1 hPO.1 hPO.2
  | ok x =>
    obtain ⟨b, p2, o2⟩ := x
    rw [hr] at hPO
    obtain ⟨f1, ho, n1, c1, ko1, G1, R1, g1⟩ := hPO
    exact kok b p2 o2 hr w1 n1 c1 ko1 f1 ho G1 R1 g1
end Two
end CondG
end Cond
