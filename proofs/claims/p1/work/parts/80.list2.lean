/-! ===== the rule of lists ===== -/
def sp_lst (T : Nat → Int32) (L : Nat) (X : PX) (k : Nat) (inn : Bool) (p ops : Nat) : Except Nat (List Ex × Nat × Nat) := if tk_g T L p = 30 then (match (if inn = false ∧ tk_g T L (tk_e T L p) = 31 then .ok ([], tk_e T L p, ops) else sp_list T L X k 8 (tk_e T L p) ops) with
  | .error e => .error e
  | .ok (ms, p2, o2) => sp_take T L 31 ms p2 o2) else .error (tk_s T L p)
section List2
variable {z : State} {l : Launch} {σ : Hp} {ad : Nat → Nat} {op sg : Nat → Nat} {aO aS mO mS : Nat} {T : Nat → Int32} {L : Nat} {E k st cl : Nat}
section ListB
theorem tb_list_150 (hp : PP z σ ad op sg aO aS mO mS L) (hcl : cl < 43) {d e : Nat} {w : Wd} {v4 v5 v6 v7 : Int32} {Q : Outcome → Hp → Prop} (hW : BS ad op sg w e) (kk : ∀ w', PF w w' → BS ad op sg w' e → Q (.returned none) (ov σ ad 21 w')) : Go z l mt_P_list (d + E + 41) 150 [.ref (ad 16), .int (nI k), .ref (op st), .ref (op cl), .int v4, .int v5, .int v6, .int v7] [] (ov σ ad 21 w) Q := by
  obtain ⟨-, -, -, n0, ko0, b4, -, -⟩ := id hW
  refine cs_P_list_150 (d := d + E + 32) hp.1 hp.2.1 b4.2.1 (cb_add (d := d + E + 31) hp.1 hp.2.1 (hp.2.2.1 cl hcl) hcl hW (fun w1 v1 f1 B1 _ => gj_nextI ?_))
  exact cs_P_list_167 (d := d + E + 32) hp.1 hp.2.1 (cb_aim (d := d + E + 31) hp.1 B1 (fun w2 f2 B2 _ => gj_nextV (cs_P_list_170 (d := d + E + 32) hp.1 hp.2.1 (kk w2 (f1.trans f2) B2))))
theorem tb_list_out (hp : PP z σ ad op sg aO aS mO mS L) (hcl : cl < 43) {d e : Nat} {w : Wd} {v4 v5 v6 v7 : Int32} {Q : Outcome → Hp → Prop} (hW : BS ad op sg w e) (h7 : v6 = 0 ∨ 8 ≤ v7) (kk : ∀ w', PF w w' → BS ad op sg w' e → Q (.returned none) (ov σ ad 21 w')) : Go z l mt_P_list (d + E + 41) 54 [.ref (ad 16), .int (nI k), .ref (op st), .ref (op cl), .int v4, .int v5, .int v6, .int v7] [] (ov σ ad 21 w) Q := by
  obtain ⟨b1, b2, b3, n0, ko0, b4, -, -⟩ := id hW
  have nb : ¬ w.I 16 30 = -1 := by rw [b2]; exact n1_ne b3
  refine cs_P_list_54 (d := d + E + 32) hp.1 hp.2.1 b4.1 (fun _ _ => cb_take (d := d + E + 31) hp (by decide) hW (fun w1 f1 B1 _ => gj_nextV (tb_list_150 hp hcl B1 (fun w2 f2 B2 => kk w2 (f1.trans f2) B2)))) (fun _ _ _ => cb_take (d := d + E + 31) hp (by decide) (bs_stop hW) (fun w1 f1 B1 _ => gj_nextV (tb_list_150 hp hcl B1 (fun w2 f2 B2 => kk w2 ((pf_stop _).trans (f1.trans f2)) B2)))) (fun _ _ h => absurd h nb) (fun _ _ _ => cb_take (d := d + E + 31) hp (by decide) hW (fun w1 f1 B1 _ => gj_nextV (tb_list_150 hp hcl B1 (fun w2 f2 B2 => kk w2 (f1.trans f2) B2)))) (fun _ h h2 => absurd h h2) (fun _ h h2 => absurd h h2) (fun h1 h2 => ?_)
  rcases h7 with h7 | h7
  · exact absurd h7 h2
  · exact absurd h7 h1
theorem tb_list_73 (hp : PP z σ ad op sg aO aS mO mS L) (hcl : cl < 43) (hB : RB z l σ ad op sg mt_P_expression [.ref (ad 16), .int (nI (k + 1)), .retAddr 0, .retAddr 0] E 40) (hst : st < 43) {d e : Nat} {w : Wd} {v4 v5 v6 v7 : Int32} {Q : Outcome → Hp → Prop} (hW : BS ad op sg w e) (kk : ∀ w', PF w w' → BS ad op sg w' e → Q (.returned none) (ov σ ad 21 w')) : Go z l mt_P_list (d + E + 41) 73 [.ref (ad 16), .int (nI k), .ref (op st), .ref (op cl), .int v4, .int v5, .int v6, .int v7] [] (ov σ ad 21 w) Q := by
  obtain ⟨b1, b2, b3, n0, ko0, b4, -, -⟩ := id hW
  have ne := sg_ne (i := 34) (j := 32) hp.2.1 (by decide) (by decide) (by decide)
  refine cs_P_list_73 (d := d + E + 32) hp.1 hp.2.1 b4.1 b4.2.1 b1 (fun _ _ => tb_list_out hp hcl hW (.inl rfl) kk) (fun _ h => absurd h ne) (fun _ => ?_)
  refine cb_add (d := d + E + 31) hp.1 hp.2.1 (hp.2.2.1 st hst) hst hW (fun w1 v1 f1 B1 _ => gj_nextI ?_)
  obtain ⟨c1, -, -, n1, ko1, c4, -, -⟩ := id B1
  exact cs_P_list_94 (d := d + E + 32) hp.1 hp.2.1 c4.1 c1 (fun _ => tb_list_out hp hcl B1 (.inl rfl) (fun w2 f2 B2 => kk w2 (f1.trans f2) B2)) (fun h => absurd h ne)
theorem tb_list_54 (hp : PP z σ ad op sg aO aS mO mS L) (hcl : cl < 43) (hB : RB z l σ ad op sg mt_P_expression [.ref (ad 16), .int (nI (k + 1)), .retAddr 0, .retAddr 0] E 40) (hst : st < 43) {d e : Nat} {w : Wd} {v4 v5 v6 v7 : Int32} {Q : Outcome → Hp → Prop} (hk : k < 100) (hW : BS ad op sg w e) (kk : ∀ w', PF w w' → BS ad op sg w' e → Q (.returned none) (ov σ ad 21 w')) : Go z l mt_P_list (d + E + 41) 54 [.ref (ad 16), .int (nI k), .ref (op st), .ref (op cl), .int v4, .int v5, .int v6, .int v7] [] (ov σ ad 21 w) Q := by
  by_cases h : v6 = 0 ∨ 8 ≤ v7
  · exact tb_list_out hp hcl hW h kk
  · obtain ⟨b1, b2, b3, n0, ko0, b4, -, -⟩ := id hW
    refine cs_P_list_54 (d := d + E + 32) hp.1 hp.2.1 b4.1 (fun h1 _ => absurd (.inr h1) h) (fun h1 => absurd (.inr h1) h) (fun h1 => absurd (.inr h1) h) (fun _ h1 => absurd (.inl h1) h) (fun _ h1 => absurd (.inl h1) h) (fun _ h1 => absurd (.inl h1) h) (fun _ _ => ?_)
    rw [nI_1]
    exact hB d w e _ hW (fun w1 f1 B1 _ => gj_nextV (tb_list_73 hp hcl hB hst B1 (fun w2 f2 B2 => kk w2 (f1.trans f2) B2)))
theorem rb_list (hp : PP z σ ad op sg aO aS mO mS L) (hcl : cl < 43) (hB : RB z l σ ad op sg mt_P_expression [.ref (ad 16), .int (nI (k + 1)), .retAddr 0, .retAddr 0] E 40) (hst : st < 43) (hk : k < 100) : RB z l σ ad op sg mt_P_list [.ref (ad 16), .int (nI k), .ref (op st), .ref (op cl), .retAddr 0, .retAddr 0, .retAddr 0, .retAddr 0] E 41 := by
  intro d w e Q hW kk
  refine cs_P_list (d := d + E + 32) hp.1 hp.2.1 (cb_take (d := d + E + 31) hp (by decide) hW (fun w1 f1 B1 _ => gj_nextV ?_))
  obtain ⟨b1, b2, b3, n0, ko0, b4, -, -⟩ := id B1
  have fin : ∀ v4 v5 v6 v7 : Int32, Go z l mt_P_list (d + E + 41) 54 [.ref (ad 16), .int (nI k), .ref (op st), .ref (op cl), .int v4, .int v5, .int v6, .int v7] [] (ov σ ad 21 w1) Q := fun v4 v5 v6 v7 => tb_list_54 hp hcl hB hst hk B1 (fun w2 f2 B2 => kk w2 (f1.trans f2) B2)
  exact cs_P_list_7 (d := d + E + 32) hp.1 hp.2.1 b4.1 b1 (fun _ _ => fin _ _ _ _) (fun _ _ _ => fin _ _ _ _) (fun _ _ _ => fin _ _ _ _) (fun _ _ => fin _ _ _ _) (fun _ _ _ => fin _ _ _ _) (fun _ _ _ => fin _ _ _ _)
end ListB
section ListG
/-- the list is done: its ) and what closes it -/
theorem lg_exit (hp : PP z σ ad op sg aO aS mO mS L) (hcl : cl < 43) {d : Nat} {w : Wd} {p ops n c a0 b : Nat} {ko : Nat → Nat} {ms : List Ex} {j v7 : Int32} {qs : List Nat} {Q : Outcome → Hp → Prop} (hb : b ≤ 100) (hG : GS ad op sg T L w p ops n c ko) (hL : LSt st c ko (w.eJ 14) (w.eI 15) ms a0 n j qs)
    (ky : tk_g T L p = 31 → ∀ w', PF w w' → GS ad op sg T L w' (tk_e T L p) ops (n + 1) c (va_up ko n cl) → (∀ x, w'.eJ 14 x = if x ∈ qs then lN n else va_up (w.eJ 14) n (lN b) x) → w'.eI 15 = w.eI 15 → Q (.returned none) (ov σ ad 21 w'))
    (kn : ¬ tk_g T L p = 31 → ∀ w', PF w w' → BS ad op sg w' (tk_s T L p) → Q (.returned none) (ov σ ad 21 w')) : Go z l mt_P_list (d + E + 41) 54 [.ref (ad 16), .int (nI k), .ref (op st), .ref (op cl), .int (nI b), .int j, .int 0, .int v7] [] (ov σ ad 21 w) Q := by
  have h1000 := gs_1000 hG
  have ht := tk_le (T := T) hG.2.2.2.2.2.2.2.2.2.2.1
  have nle : n ≤ tk_s T L p := hG.2.2.2.2.2.2.2.2.1
  obtain ⟨q1, q2, q3⟩ := hL.lo
  have nxt : ∀ v7 : Int32, Go z l mt_P_take (d + E + 40) 0 [.ref (ad 16), .ref (sg 31)] [] (ov σ ad 21 w) (fun o σ1 => hp_Le (ov σ ad 21 w) σ1 → gj_next z l mt_P_list (d + E + 41) 147 [.ref (ad 16), .int (nI k), .ref (op st), .ref (op cl), .int (nI b), .int j, .int 0, .int v7] [] Q o σ1) := fun v7 => by
    refine cg_take (d := d + E + 19) hp (by decide) hG (fun hg w1 f1 G1 _ => gj_nextV ?_) (fun hg w1 f1 B1 _ => gj_nextV (tb_list_150 hp hcl B1 (fun w2 f2 B2 => kn hg w2 (f1.trans f2) B2)))
    have h1 := ht.2.2.2.1 (by rw [hg]; decide)
    refine cs_P_list_150 (d := d + E + 32) hp.1 hp.2.1 G1.1.2.1 (cg_addG (d := d + E + 31) hp hcl G1 (by omega) (fun w2 f2 G2 r1 r2 _ => gj_nextI ?_))
    rw [lN_ofI (by omega)] at r1
    have e1 : w1.eJ 14 = w.eJ 14 := by rw [f1.2.2.2.2.1]
    have e2 : w1.eI 15 = w.eI 15 := by rw [f1.2.2.2.1]
    have hLk : Lk (w2.eJ 14) qs j := by
      rcases hL with ⟨a, b, cc, e⟩ | ⟨a, ps, b, cc, e, f⟩
      · rw [e]; exact cc
      · refine f.mono (fun q hq => ?_)
        have := q1 q hq
        rw [r1, hp_up_ne _ _ (by omega), e1]
    refine cs_P_list_167 (d := d + E + 32) hp.1 hp.2.1 (cg_aimL (d := d + E + 31) hp (by omega) G2 hLk (fun q hq => by have := q1 q hq; omega) (by omega) (fun w3 f3 G3 r3 r4 _ => gj_nextV (cs_P_list_170 (d := d + E + 32) hp.1 hp.2.1 (ky hg w3 ((PF.nf f1).trans (f2.trans f3)) G3 (fun x => ?_) (r4.trans (r2.trans e2))))))
    rw [r3 x, r1, e1]
  have no : ∀ P : Prop, ¬ (0 : Int32) = 0 → P := fun P h => absurd rfl h
  exact cs_P_list_54 (d := d + E + 32) hp.1 hp.2.1 hG.1.1 (fun _ _ => nxt _) (fun _ h => no _ h) (fun _ h => no _ h) (fun _ _ _ => nxt _) (fun _ _ h => no _ h) (fun _ _ h => no _ h) (fun _ h => no _ h)
variable {X : PX}
theorem lg_loop (hp : PP z σ ad op sg aO aS mO mS L) (hcl : cl < 43) (hB : RB z l σ ad op sg mt_P_expression [.ref (ad 16), .int (nI (k + 1)), .retAddr 0, .retAddr 0] E 40) (hst : st < 43) (hX : RG z l σ ad op sg T L mt_P_expression [.ref (ad 16), .int (nI (k + 1)), .retAddr 0, .retAddr 0] E 40 (X (k + 1))) (hk : k < 100) {d base a0 : Nat} {Q : Outcome → Hp → Prop} (hbase : base ≤ 1) : ∀ (f : Nat) (ms : List Ex) (w : Wd) (p ops n c : Nat) (ko : Nat → Nat) (j : Int32) (qs : List Nat), ms.length + f = 8 → n + 1 ≤ tk_s T L p → GS ad op sg T L w p ops n c ko → LSt st c ko (w.eJ 14) (w.eI 15) ms a0 n j qs →
    (∀ ms2 p2 o2, sp_list T L X k f p ops = .ok (ms2, p2, o2) → ∀ w' n' c' ko' j' qs' v7, PF w w' → ops ≤ o2 → GS ad op sg T L w' p2 o2 n' c' ko' → LSt st c' ko' (w'.eJ 14) (w'.eI 15) (ms ++ ms2) a0 n' j' qs' → (∀ x, x < n → ko' x = ko x ∧ w'.eJ 14 x = w.eJ 14 x) → (∀ x, x < c → w'.eI 15 x = w.eI 15 x) → n ≤ n' → c ≤ c' → n' + tk_s T L p ≤ n + tk_s T L p2 + 1 → c' + tk_s T L p ≤ c + tk_s T L p2 → (ms ++ ms2).length ≤ 8 → Go z l mt_P_list (d + E + 41) 54 [.ref (ad 16), .int (nI k), .ref (op st), .ref (op cl), .int (nI (base + (ms ++ ms2).length)), .int j', .int 0, .int v7] [] (ov σ ad 21 w') Q) →
    (∀ e, sp_list T L X k f p ops = .error e → ∀ w', PF w w' → BS ad op sg w' e → Q (.returned none) (ov σ ad 21 w')) →
    Go z l mt_P_list (d + E + 41) 54 [.ref (ad 16), .int (nI k), .ref (op st), .ref (op cl), .int (nI (base + ms.length)), .int j, .int 1, .int (nI ms.length)] [] (ov σ ad 21 w) Q := by
  intro f
  have no : ∀ P : Prop, (1 : Int32) = 0 → P := fun P h => absurd h (by decide)
  induction f with
  | zero =>
    intro ms w p ops n c ko j qs hf hn hG hL kok ker
    have h8 : (8 : Int32) ≤ nI ms.length := nI_le (a := 8) (by omega) (by omega)
    refine cs_P_list_54 (d := d + E + 32) hp.1 hp.2.1 hG.1.1 (fun _ h => no _ h) (fun _ _ h => absurd hG.2.2.2.2.1 h) (fun _ _ _ => ?_) (fun h => absurd h8 h) (fun h => absurd h8 h) (fun h => absurd h8 h) (fun h => absurd h8 h)
    exact cb_take (d := d + E + 31) hp (by decide) (gs_break hG) (fun w1 f1 B1 _ => gj_nextV (tb_list_150 hp hcl B1 (fun w2 f2 B2 => ker _ rfl w2 ((pf_at _ _).trans (f1.trans f2)) B2)))
  | succ f ih =>
    intro ms w p ops n c ko j qs hf hn hG hL kok ker
    have h8 : ¬ (8 : Int32) ≤ nI ms.length := nI_ge (b := 8) (by omega) (by omega)
    refine cs_P_list_54 (d := d + E + 32) hp.1 hp.2.1 hG.1.1 (fun h => absurd h h8) (fun h => absurd h h8) (fun h => absurd h h8) (fun _ h => no _ h) (fun _ h => no _ h) (fun _ h => no _ h) (fun _ _ => ?_)
    rw [nI_1]
    refine hX d w p ops n c ko _ hG (fun w1 hPO _ => gj_nextV ?_)
    cases hr : X (k + 1) p ops with
    | error e =>
      rw [hr] at hPO
      exact tb_list_73 hp hcl hB hst hPO.2 (fun w2 f2 B2 => ker e (by rw [sp_list, hr]) w2 (hPO.1.trans f2) B2)
    | ok x =>
      obtain ⟨m, p1, o1⟩ := x
      rw [hr] at hPO
      obtain ⟨f1, ho, n1, c1, ko1, G1, R1, g1⟩ := hPO
      have gg := g1.2.2
      have ht1 := tk_le (T := T) G1.2.2.2.2.2.2.2.2.2.2.1
      have hL1 : LSt st c1 ko1 (w1.eJ 14) (w1.eI 15) ms a0 n j qs := hL.mono (fun x _ a2 => g1.1 x a2) g1.2.1 (by omega)
      have hlo := hL.lo
      have R1lt := R1.1
      -- the state behind the part and its step: w2, n2
      have goon : ∀ (w2 : Wd) (n2 : Nat) (ko2 : Nat → Nat) (j2 : Int32) (qs2 : List Nat), PF w1 w2 → GS ad op sg T L w2 p1 o1 n2 c1 ko2 → LSt st c1 ko2 (w2.eJ 14) (w2.eI 15) (ms ++ [m]) a0 n2 j2 qs2 → (∀ x, x < n → ko2 x = ko x ∧ w2.eJ 14 x = w.eJ 14 x) → (∀ x, x < c → w2.eI 15 x = w.eI 15 x) → n ≤ n2 → n2 + tk_s T L p ≤ n + tk_s T L p1 + 1 →
          (¬ tk_g T L p1 = 32 → Go z l mt_P_list (d + E + 41) 54 [.ref (ad 16), .int (nI k), .ref (op st), .ref (op cl), .int (nI (base + ms.length) + 1), .int j2, .int 0, .int (nI ms.length + 1)] [] (ov σ ad 21 w2) Q) ∧ (tk_g T L p1 = 32 → Go z l mt_S_next (d + E + 40) 0 [.ref (ad 17), .retAddr 0] [] (ov σ ad 21 w2) (fun o σ1 => hp_Le (ov σ ad 21 w2) σ1 → gj_next z l mt_P_list (d + E + 41) 125 [.ref (ad 16), .int (nI k), .ref (op st), .ref (op cl), .int (nI (base + ms.length) + 1), .int j2, .int 1, .int (nI ms.length)] [] Q o σ1)) := by
        intro w2 n2 ko2 j2 qs2 f2 G2 L2 k2 kc2 hn2 hs2
        refine ⟨fun hg => ?_, fun hg => ?_⟩
        · have es : sp_list T L X k (f + 1) p ops = .ok ([m], p1, o1) := by
            rw [sp_list, hr]
            exact if_neg hg
          have := kok [m] p1 o1 es w2 n2 c1 ko2 j2 qs2 (nI ms.length + 1) (f1.trans f2) ho G2 L2 k2 kc2 hn2 (by omega) hs2 (by omega) (by rw [List.length_append]; show ms.length + 1 ≤ 8; omega)
          rw [nI_1]
          rw [List.length_append] at this
          exact this
        · have h1 := ht1.2.2.2.1 (by rw [hg]; decide)
          refine cg_next (d := d + E + 20) hp G2 (fun w3 f3 G3 _ => gj_nextV (cs_P_list_128 (d := d + E + 32) hp.1 hp.2.1 ?_))
          rw [nI_1, nI_1]
          have L3 : LSt st c1 ko2 (w3.eJ 14) (w3.eI 15) (ms ++ [m]) a0 n2 j2 qs2 := by rw [f3.2.2.2.2.1, f3.2.2.2.1]; exact L2
          have hl1 : (ms ++ [m]).length = ms.length + 1 := by rw [List.length_append]; rfl
          have := ih (ms ++ [m]) w3 (tk_e T L p1) o1 n2 c1 ko2 j2 qs2 (by omega) (by omega) G3 L3 (fun ms2 p2 o2 hs w' n' c' ko' j' qs' v7 hf' ho' hG' hL' kr kc hn' hc' hs' hcs' hl' => ?_) (fun e hs w' hf' hB' => ker e (by
              rw [sp_list, hr]
              show (if tk_g T L p1 = 32 then _ else _) = _
              rw [if_pos hg, hs]) w' (f1.trans (f2.trans ((PF.nf f3).trans hf'))) hB')
          · rw [hl1] at this
            exact this
          · have e3 : ms ++ [m] ++ ms2 = ms ++ (m :: ms2) := by rw [List.append_assoc]; rfl
            rw [e3] at hL' hl' ⊢
            refine kok (m :: ms2) p2 o2 ?_ w' n' c' ko' j' qs' v7 (f1.trans (f2.trans ((PF.nf f3).trans hf'))) (by omega) hG' hL' (fun x hx => ?_) (fun x hx => ?_) (by omega) (by omega) (by omega) (by omega) hl'
            · rw [sp_list, hr]
              show (if tk_g T L p1 = 32 then _ else _) = _
              rw [if_pos hg, hs]
            · rw [(kr x (by omega)).1, (kr x (by omega)).2, f3.2.2.2.2.1]
              exact k2 x hx
            · rw [kc x (by omega), f3.2.2.2.1]
              exact kc2 x hx
      have keep1 : ∀ x, x < n → ko1 x = ko x ∧ w1.eJ 14 x = w.eJ 14 x := g1.1
      refine cs_P_list_73 (d := d + E + 32) hp.1 hp.2.1 G1.1.1 G1.1.2.1 G1.2.2.2.1.2.2.2.1 (fun h0 h => ?_) (fun h0 h => ?_) (fun h0 => ?_)
      · have hst0 : st = 0 := op_inj hp.2.1 hst (by decide) h0
        have L2 : LSt st c1 ko1 (w1.eJ 14) (w1.eI 15) (ms ++ [m]) a0 n1 j qs := by
          rcases hL1 with ⟨a, b, cc, e⟩ | ⟨a, _⟩
          · exact Or.inl ⟨a, pn_add b R1, cc, e⟩
          · exact absurd hst0 a
        exact (goon w1 n1 ko1 j qs (PF.refl _) G1 L2 keep1 g1.2.1 (by omega) (by omega)).1 (fun q => h (by rw [q]))
      · have hst0 : st = 0 := op_inj hp.2.1 hst (by decide) h0
        have L2 : LSt st c1 ko1 (w1.eJ 14) (w1.eI 15) (ms ++ [m]) a0 n1 j qs := by
          rcases hL1 with ⟨a, b, cc, e⟩ | ⟨a, _⟩
          · exact Or.inl ⟨a, pn_add b R1, cc, e⟩
          · exact absurd hst0 a
        exact (goon w1 n1 ko1 j qs (PF.refl _) G1 L2 keep1 g1.2.1 (by omega) (by omega)).2 (sg_inj hp.2.1 G1.g (by decide) h)
      · have hst0 : ¬ st = 0 := fun q => h0 (by rw [q])
        have h1k := gs_1000 G1
        refine cg_addG (d := d + E + 31) hp hst G1 (by omega) (fun w2 f2 G2 r1 r2 _ => gj_nextI ?_)
        have keep2 : ∀ x, x < n → va_up ko1 n1 st x = ko x ∧ w2.eJ 14 x = w.eJ 14 x := fun x hx => by
          rw [r1, hp_up_ne _ _ (by omega), hp_up_ne _ _ (by omega)]
          exact keep1 x hx
        have kc2 : ∀ x, x < c → w2.eI 15 x = w.eI 15 x := fun x hx => by rw [r2]; exact g1.2.1 x hx
        have L2 : LSt st c1 (va_up ko1 n1 st) (w2.eJ 14) (w2.eI 15) (ms ++ [m]) a0 (n1 + 1) (nI n1) (n1 :: qs) := by
          have hL1' : LSt st c1 (va_up ko1 n1 st) (w2.eJ 14) (w2.eI 15) ms a0 n j qs := hL1.mono (fun x a1 a2 => by
            rw [r1, hp_up_ne _ _ (by omega), hp_up_ne _ _ (by omega)]
            exact ⟨rfl, rfl⟩) (fun x _ => by rw [r2]) (Nat.le_refl _)
          have R1' : Rep m n n1 c1 (va_up ko1 n1 st) (w2.eJ 14) (w2.eI 15) := R1.mono (fun x a1 a2 => by
            rw [r1, hp_up_ne _ _ (by omega), hp_up_ne _ _ (by omega)]
            exact ⟨rfl, rfl⟩) (fun x _ => by rw [r2]) (Nat.le_refl _)
          rcases hL1' with ⟨a, _⟩ | ⟨a, ps, b, cc, e, ff⟩
          · exact absurd a hst0
          · refine Or.inr ⟨hst0, ps ++ [(m, n1)], by rw [List.map_append, b]; rfl, ps_add cc R1' (hp_up_same _ _ _), by rw [e, List.map_append, List.reverse_append]; rfl, rfl, fun x hx => ?_, ?_⟩
            · have := hlo.1 x hx
              omega
            · have e9 : (w2.eJ 14 n1).toInt32 = j := by rw [r1, hp_up_same, i64_32]
              rw [e9]
              exact ff
        obtain ⟨ga, gb⟩ := goon w2 (n1 + 1) _ (nI n1) (n1 :: qs) f2 G2 L2 keep2 kc2 (by omega) (by omega)
        exact cs_P_list_94 (d := d + E + 32) hp.1 hp.2.1 G2.1.1 G2.2.2.2.1.2.2.2.1 (fun h => ga (fun q => h (by rw [q]))) (fun h => gb (sg_inj hp.2.1 G2.g (by decide) h))
end ListG
end List2
