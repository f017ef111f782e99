/-! ===== the reference's rules: CASE ===== -/
def fl2 : List (Ex × Ex) → List Ex
  | [] => []
  | (c, r) :: cs => c :: r :: fl2 cs
def CaseR (am : Nat → Nat) (lo : Nat) : Prop := ∀ (z : State) (σ : Hp) (cs : List (Ex × Ex)) (me : Ex) (rs : List (Ex × Nat)) (n b cap u h kv e : Nat), NB z σ am lo h n b 0 0 4 (nI e) rs cap u kv → (∀ i, i < 7 → am i < lo) → lo ≤ u → ((e = 0 ∧ me = ex_null ∧ rs.map Prod.fst = fl2 cs) ∨ (e = 1 ∧ rs.map Prod.fst = fl2 cs ++ [me])) → rs.length ≤ 39 → 1 ≤ cs.length → RepN (ex_case cs me) lo u σ.nx σ am n (h + 1) (kv + 1)
theorem NB.setk {z : State} {σ : Hp} {am : Nat → Nat} {lo h n b hl hh cap u kv : Nat} {op kd : Int32} {rs : List (Ex × Nat)} (hN : NB z σ am lo h n b hl hh op kd rs cap u kv) (am7 : ∀ i, i < 7 → am i < lo) (v : Int32) : NB z (σ.setI 64 n v) am lo h n b hl hh op v rs cap u kv := by
  have F : Fm am (fun a => a = n ∨ a = b) σ (σ.setI 64 n v) := ⟨Nat.le_refl _, Nat.le_refl _, fun q _ _ hx9 => SameC.setI (fun e => hx9 (Or.inl e))⟩
  obtain ⟨q1, q2, q3, q4, q5, q6, q7, q9, q8⟩ := hN
  have q8' := q8.mv F am7 q1.1 q1.2.2.2.2.1 (Nat.le_refl _)
  obtain ⟨m1, m2, m3, m4, m5, m6, m7, m8, m9⟩ := q1
  exact ⟨⟨m1, (Hp.sI_nf _ _ _ _ (by decide)).trans m2, Hp.sI _ _ _ _, m4, m5, m6, (Hp.sI_nf _ _ _ _ (by decide)).trans m7, m8, m9⟩, q2, q3, q4, q5, q6, q7, q9, q8'⟩
section MCases
variable {z : State} {l : Launch} {am : Nat → Nat} {T : Nat → Int32} {L sa lo k hb hx n : Nat} {X : PX}
theorem rm_whens (hX : RM z l am T L sa lo mt_M_expression [.ref (am 0), .retAddr 0] k 0 hb (X (k + 1))) {d : Nat} {Q : Outcome → Hp → Prop} :
    ∀ (f i : Nat) (σ : Hp) (w : Wd) (p ops b cap u kv ho : Nat) (rs : List (Ex × Nat)), i + f = 19 → rs.length = 2 * i → MG z σ am w T L sa lo p ops k → NB z σ am lo (hb + (ops - ho)) n b 0 0 4 0 rs cap u kv → ho ≤ ops → tk_g T L p = 9 →
      (∀ e H, sp_whens T L X k f p ops = .error e → MBx z am T L (fun a => a = n ∨ a = b) σ w p e 0 0 H → Q (.threw (am 1)) H) →
      (∀ cs p' o' σ' w' b' cap' rs' kv' (v : Int32), sp_whens T L X k f p ops = .ok (cs, p', o') → rs'.map Prod.fst = rs.map Prod.fst ++ fl2 cs → rs'.length = rs.length + 2 * cs.length → cs.length ≤ f → 1 ≤ cs.length → MG z σ' am w' T L sa lo p' o' k → ops ≤ o' → p + 1 ≤ p' → Fm am (fun a => a = n ∨ a = b) σ σ' → WS w w' → Bq T L σ σ' p p' 0 0 → kv' + 1 ≤ kv + 2 * (p' - p) → NB z σ' am lo (hb + (o' - ho)) n b' 0 0 4 0 rs' cap' u kv' → Go z l mt_M_take (d + 10 * (30 - k) + 30) 0 [.ref (am 0), .ref (strZ z "TruthBenchModel" 292)] [] (ov σ' am 7 w') (fun o σ1 => hp_Le (ov σ' am 7 w') σ1 → gj_next z l mt_M_cases (d + 10 * (30 - k) + 31) 85 [.ref (am 0), .ref n, .int v] [] Q o σ1)) →
      Go z l mt_M_cases (d + 10 * (30 - k) + 31) 23 [.ref (am 0), .ref n, .int (nI i)] [] (ov σ am 7 w) Q := by
  have one : ¬ (1 : Int32) = 0 := by decide
  intro f
  induction f with
  | zero =>
    intro i σ w p ops b cap u kv ho rs hi hrl hG hN hho h9 kE kO
    have i19 : (19 : Int32) ≤ nI i := show nI 19 ≤ nI i from nI_le (by omega) (by omega)
    refine cm_M_cases_23 (d := d + 10 * (30 - k) + 22) hG.1.1 (mg_is (d := d + 10 * (30 - k) + 19) (g := 9) hG (ms_c288 hG.1.2.2.2.2.2.2.2.1) (by decide) (by decide) (fun _ => gj_nextI ?_))
    rw [decide_eq_true h9]
    exact cm_M_cases_30 (d := d + 10 * (30 - k) + 22) hG.1.1 hG.1.2.1 (fun q => absurd q one) (fun _ _ => kE _ _ rfl hG.brk.x) (fun _ q => absurd i19 q)
  | succ f ih =>
    intro i σ w p ops b cap u kv ho rs hi hrl hG hN hho h9 kE kO
    have i19 : ¬ (19 : Int32) ≤ nI i := fun q => absurd (show nI 19 ≤ nI i from q) (nI_ge (by omega) (by omega))
    have am7 := hG.2.2.2.2.2.2.2.2.2
    refine cm_M_cases_23 (d := d + 10 * (30 - k) + 22) hG.1.1 (mg_is (d := d + 10 * (30 - k) + 19) (g := 9) hG (ms_c288 hG.1.2.2.2.2.2.2.2.1) (by decide) (by decide) (fun _ => gj_nextI ?_))
    rw [decide_eq_true h9]
    refine cm_M_cases_30 (d := d + 10 * (30 - k) + 22) hG.1.1 hG.1.2.1 (fun q => absurd q one) (fun _ q => absurd q i19) (fun _ _ => mg_next (d := d + 10 * (30 - k) + 16) hG (by omega) (by omega) (fun σ1 w1 G1 F1 S1 B1 _ => gj_nextV (cm_M_cases_52 (d := d + 10 * (30 - k) + 22) G1.1.1 (hX d σ1 w1 _ _ _ G1 (fun o H hMO => ?_)))))
    obtain ⟨b11, b12, b13, b14⟩ := id B1
    have f1n := F1.1
    cases hr : X (k + 1) (tk_e T L p) ops with
    | error e =>
      rw [hr] at hMO
      obtain ⟨rfl, hB⟩ := hMO
      exact fun _ => gj_nextT (go_out (fun _ h => nomatch h) (kE e _ (by rw [sp_whens, if_pos h9, hr]) (MB.pre F1 S1.ws B1.bc hB).x))
    | ok y =>
      obtain ⟨m, p1, o1⟩ := y
      rw [hr] at hMO
      obtain ⟨x, σ2, w2, rfl, rfl, G2, ho2, hp2, F2, W2, B2, R2⟩ := hMO
      intro _
      obtain ⟨b21, b22⟩ := id B2
      have f2n := F2.1
      have N1 := hN.fm hG.1.1 F1 am7
      have N2 := N1.fm G1.1.1 F2 am7
      obtain ⟨-, -, -, -, -, nlt0, blt0, -, -⟩ := id hN
      obtain ⟨-, -, -, -, -, nlt, blt, -, hPR⟩ := id N1
      have hPR2 : PR lo σ2 am (hb + (o1 - ho)) n b 0 0 rs u σ1.nx kv := (hPR.fm F2 am7 (Nat.le_refl _)).mono (by omega) (Nat.le_refl _)
      have N2' : NB z σ2 am lo (hb + (o1 - ho)) n b 0 0 4 0 rs cap u kv := by
        obtain ⟨q1, q2, q3, q4, q5, q6, q7, q9, q8⟩ := N2
        exact ⟨q1, q2, q3, q4, q5, q6, q7, q9, q8.mono (by omega) (Nat.le_refl _)⟩
      refine gj_nextI (go_wf fun hw2 => cm_M_cases_57 (d := d + 10 * (30 - k) + 22) G2.1.1 N2.1.1 (mo_part (d := d + 10 * (30 - k) + 21) N2' G2.1.1 am7 (R2.mono (by omega) (Nat.le_refl _)) hPR2 (Nat.le_refl _) (Or.inl nlt) (Or.inl blt) (Or.inr (Nat.zero_le _)) (by omega) (fun σ3 b3 cap3 c3 F3 N3 o3 bd3 n3 s3 e3 _ => gj_nextV (cm_M_cases_60 (d := d + 10 * (30 - k) + 22) c3 ?_))))
      have G3 := G2.fx c3 F3 N2'.tags hw2
      have f3n := F3.1
      have F03 : Fm am (fun a => a = n ∨ a = b) σ σ3 := (F1.tr F2).trans F3 (fun _ _ q => q.elim) (fun _ _ q => q)
      have W3 : WS w w2 := S1.ws.trans W2
      refine mg_need (d := d + 10 * (30 - k) + 14) (g := 10) G3 (ms_c290 G3.1.2.2.2.2.2.2.2.1) (by decide) (by decide) (fun g10 H hM => ?_) (fun g10 σ4 w4 G4 F4 S4 B4 _ => gj_nextV (cm_M_cases_67 (d := d + 10 * (30 - k) + 22) G4.1.1 (hX d σ4 w4 _ _ _ G4 (fun o H hMO => ?_))))
      · exact fun _ => gj_nextT (go_out (fun _ h => nomatch h) (kE _ _ (by rw [sp_whens, if_pos h9, hr]; exact if_neg g10) (MBx.pre F03 W3 (by omega) (by omega) (hM.x (ex := fun _ => False) (c := 0) (s := 0)) (fun _ _ q => q) (fun _ _ q => q.elim))))
      have es2 : sp_whens T L X k (f + 1) p ops = match X (k + 1) (tk_e T L p1) o1 with
          | .error e => .error e
          | .ok (r, p2, o2) => if tk_g T L p2 = 9 then (match sp_whens T L X k f p2 o2 with
            | .error e => .error e
            | .ok (cs, p3, o3) => .ok ((m, r) :: cs, p3, o3)) else .ok ([(m, r)], p2, o2) := by
        rw [sp_whens, if_pos h9, hr]
        exact if_pos g10
      obtain ⟨b41, b42, b43, b44⟩ := id B4
      have f4n := F4.1
      have F04 : Fm am (fun a => a = n ∨ a = b) σ σ4 := F03.trans F4 (fun _ _ q => q) (fun _ _ q => q.elim)
      have W4 : WS w w4 := W3.trans S4.ws
      cases hr2 : X (k + 1) (tk_e T L p1) o1 with
      | error e =>
        rw [hr2] at hMO
        obtain ⟨rfl, hB⟩ := hMO
        exact fun _ => gj_nextT (go_out (fun _ h => nomatch h) (kE e _ (by rw [es2, hr2]) (MBx.pre F04 W4 (by omega) (by omega) (hB.x (ex := fun _ => False) (c := 0) (s := 0)) (fun _ _ q => q) (fun _ _ q => q.elim))))
      | ok y =>
        obtain ⟨m2, p2, o2⟩ := y
        rw [hr2] at hMO
        obtain ⟨x2, σ5, w5, rfl, rfl, G5, ho5, hp5, F5, W5, B5, R5⟩ := hMO
        intro _
        obtain ⟨b51, b52⟩ := id B5
        have f5n := F5.1
        have N4 := N3.fm c3 F4 am7
        have N5 := N4.fm G4.1.1 F5 am7
        obtain ⟨-, -, -, -, -, nlt4, blt4, -, hPR4⟩ := id N4
        have hPR5 : PR lo σ5 am (hb + (o2 - ho)) n b3 0 0 (rs ++ [(m, x)]) u σ4.nx (kv + 2 * (p1 - tk_e T L p)) := (hPR4.fm F5 am7 (Nat.le_refl _)).mono (by omega) (Nat.le_refl _)
        have N5' : NB z σ5 am lo (hb + (o2 - ho)) n b3 0 0 4 0 (rs ++ [(m, x)]) cap3 u (kv + 2 * (p1 - tk_e T L p)) := by
          obtain ⟨q1, q2, q3, q4, q5, q6, q7, q9, q8⟩ := N5
          exact ⟨q1, q2, q3, q4, q5, q6, q7, q9, q8.mono (by omega) (Nat.le_refl _)⟩
        have len1 : (rs ++ [(m, x)]).length = rs.length + 1 := by rw [List.length_append]; rfl
        refine gj_nextI (go_wf fun hw5 => cm_M_cases_72 (d := d + 10 * (30 - k) + 22) G5.1.1 N5.1.1 (mo_part (d := d + 10 * (30 - k) + 21) N5' G5.1.1 am7 (R5.mono (by omega) (Nat.le_refl _)) hPR5 (Nat.le_refl _) (Or.inl nlt4) (Or.inl blt4) (Or.inr (Nat.zero_le _)) (by omega) (fun σ6 b6 cap6 c6 F6 N6 o6 bd6 n6 s6 e6 _ => gj_nextV (cm_M_cases_75 (d := d + 10 * (30 - k) + 22) c6 ?_))))
        have G6 := G5.fx c6 F6 N5'.tags hw5
        have len2 : (rs ++ [(m, x)] ++ [(m2, x2)]).length = rs.length + 2 := by rw [List.length_append, len1]; rfl
        have exb : ∀ a, a < σ.nx → a = n ∨ a = b3 → a = n ∨ a = b := fun a ha q => by
          rcases q with q | q
          · exact Or.inl q
          · rcases bd3 with e | e
            · exact Or.inr (by omega)
            · omega
        have exb6 : ∀ a, a < σ.nx → a = n ∨ a = b6 → a = n ∨ a = b := fun a ha q => by
          rcases q with q | q
          · exact Or.inl q
          · rcases bd6 with e | e
            · exact exb a ha (Or.inr (by omega))
            · omega
        have F06 : Fm am (fun a => a = n ∨ a = b) σ σ6 := (F04.trans F5 (fun _ _ q => q) (fun _ _ q => q.elim)).trans F6 (fun _ _ q => q) exb
        have W6 : WS w w5 := W4.trans W5
        have mapf : (rs ++ [(m, x)] ++ [(m2, x2)]).map Prod.fst = rs.map Prod.fst ++ [m, m2] := by rw [List.map_append, List.map_append, List.append_assoc]; rfl
        have es3 : sp_whens T L X k (f + 1) p ops = if tk_g T L p2 = 9 then (match sp_whens T L X k f p2 o2 with
            | .error e => .error e
            | .ok (cs, p3, o3) => .ok ((m, m2) :: cs, p3, o3)) else .ok ([(m, m2)], p2, o2) := by rw [es2, hr2]
        rw [nI_1]
        by_cases g9 : tk_g T L p2 = 9
        · rw [if_pos g9] at es3
          refine ih (i + 1) σ6 w5 p2 o2 b6 cap6 u _ ho _ (by omega) (by omega) G6 N6 (by omega) g9 (fun e H hs hM => ?_) (fun cs p' o' σ' w' b' cap' rs' kv' v hs hfst hrl' hcl hc1 G' ho' hp' F' W' B' hkv' N' => ?_)
          · exact kE e H (by rw [es3, hs]) (MBx.pre F06 W6 (by omega) (by omega) hM (fun _ _ q => q) exb6)
          · obtain ⟨b71, b72⟩ := B'
            exact kO ((m, m2) :: cs) p' o' σ' w' b' cap' rs' kv' v (by rw [es3, hs]) (by rw [hfst, mapf, List.append_assoc]; rfl) (by rw [List.length_cons]; omega) (by rw [List.length_cons]; omega) (by rw [List.length_cons]; omega) G' (by omega) (by omega) (F06.trans F' (fun _ _ q => q) exb6) (W6.trans W') ⟨by omega, by omega⟩ (by omega) N'
        · rw [if_neg g9] at es3
          refine cm_M_cases_23 (d := d + 10 * (30 - k) + 22) c6 (mg_is (d := d + 10 * (30 - k) + 19) (g := 9) G6 (ms_c288 G6.1.2.2.2.2.2.2.2.1) (by decide) (by decide) (fun _ => gj_nextI ?_))
          rw [decide_eq_false g9]
          exact cm_M_cases_30 (d := d + 10 * (30 - k) + 22) c6 G6.1.2.1 (fun _ => kO [(m, m2)] p2 o2 σ6 w5 b6 cap6 _ _ _ es3 mapf len2 (show 1 ≤ f + 1 by omega) (Nat.le_refl _) G6 (by omega) (by omega) F06 W6 ⟨by omega, by omega⟩ (by omega) N6) (fun q => absurd rfl q) (fun q => absurd rfl q)
theorem rm_cases (hX : RM z l am T L sa lo mt_M_expression [.ref (am 0), .retAddr 0] k 0 hx (X (k + 1))) (hC : CaseR am lo) (hh : hx + 1 ≤ hb) (d : Nat) (σ : Hp) (w : Wd) (p ops : Nat) (Q : Outcome → Hp → Prop) (h8 : tk_g T L p = 8) (hG : MG z σ am w T L sa lo p ops k) (kk : ∀ o H, MO z am T L sa lo σ w p ops k hb (sp_case T L X k p ops) o H → Q o H) :
    Go z l mt_M_cases (d + 10 * (30 - k) + 31) 0 [.ref (am 0), .retAddr 0, .retAddr 0] [] (ov σ am 7 w) Q := by
  have one : ¬ (1 : Int32) = 0 := by decide
  have am7 := hG.2.2.2.2.2.2.2.2.2
  have lo8 := hG.2.2.2.2.2.2.2.2.1
  unfold sp_case at kk
  refine cm_M_cases (d := d + 10 * (30 - k) + 22) hG.1.1 (mg_next (d := d + 10 * (30 - k) + 16) hG (by omega) (by omega) (fun σ1 w1 G1 F1 S1 B1 _ => gj_nextV (go_wf fun hw1 => cm_M_cases_4 (d := d + 10 * (30 - k) + 22) G1.1.1 (mo_node (d := d + 10 * (30 - k) + 21) G1.1.1 (fun σ2 c2 F2 N2 n2 s2 z2 _ => gj_nextI (go_wf fun hw2 => cm_M_cases_9 (d := d + 10 * (30 - k) + 22) c2 ?_))))))
  obtain ⟨b11, b12, b13, b14⟩ := id B1
  have f1n := F1.1
  have lo1 := G1.2.2.2.2.2.2.2.2.1
  have G2 := G1.fr c2 F2 hw1
  have F02 := F1.tr F2
  have mb : mx am (σ1.nx + 1) := fun i hi e => by have := am7 i hi; omega
  have NB2 : NB z σ2 am lo (hx + (ops - ops)) σ1.nx (σ1.nx + 1) 0 0 4 0 [] 2 σ1.nx 0 := ⟨N2, by decide, z2, by omega, mb, by omega, by omega, ⟨Nat.le_refl _, by omega, by omega, by omega⟩, show σ1.nx ≤ σ2.nx by omega⟩
  refine mg_is (d := d + 10 * (30 - k) + 19) (g := 9) G2 (ms_c288 G2.1.2.2.2.2.2.2.2.1) (by decide) (by decide) (fun _ => gj_nextI ?_)
  by_cases h9 : tk_g T L (tk_e T L p) = 9
  · rw [decide_eq_true h9]
    have fin2 : ∀ (σ5 : Hp) (w5 : Wd) (p5 o5 b5 cap5 : Nat) (rs : List (Ex × Nat)) (kv : Nat) (cs : List (Ex × Ex)) (me : Ex) (e : Nat) (v : Int32), MG z σ5 am w5 T L sa lo p5 o5 k → ops ≤ o5 → p + 1 ≤ p5 → NB z σ5 am lo (hx + (o5 - ops)) σ1.nx b5 0 0 4 (nI e) rs cap5 σ1.nx kv → ((e = 0 ∧ me = ex_null ∧ rs.map Prod.fst = fl2 cs) ∨ (e = 1 ∧ rs.map Prod.fst = fl2 cs ++ [me])) → rs.length ≤ 39 → 1 ≤ cs.length → Fm am (fun _ => False) σ σ5 → WS w w5 → σ5.nx + 12 * tk_E T L p + 8 * p ≤ σ.nx + 12 * tk_E T L p5 + 8 * p5 → σ5.sl + 110 * tk_E T L p + 250 * p ≤ σ.sl + 110 * tk_E T L p5 + 250 * p5 → kv + 1 ≤ 2 * (p5 + 1 - p) → (∀ o H, MO z am T L sa lo σ w p ops k hb (sp_take T L 12 (ex_case cs me) p5 o5) o H → Q o H) → Go z l mt_M_need (d + 10 * (30 - k) + 30) 0 [.ref (am 0), .ref (strZ z "TruthBenchModel" 294)] [] (ov σ5 am 7 w5) (fun o σ6 => hp_Le (ov σ5 am 7 w5) σ6 → gj_next z l mt_M_cases (d + 10 * (30 - k) + 31) 108 [.ref (am 0), .ref σ1.nx, .int v] [] Q o σ6) := by
      intro σ5 w5 p5 o5 b5 cap5 rs kv cs me e v G5 ho hp5 N5 hd hrs hcs F05 W5 B5 C5 hkv kq
      refine mg_need (d := d + 10 * (30 - k) + 14) (g := 12) G5 (ms_c294 G5.1.2.2.2.2.2.2.2.1) (by decide) (by decide) (fun e9 H hM => ?_) (fun e9 σ6 w6 G6 F6 S6 B6 _ => gj_nextV (cm_M_cases_111 (d := d + 10 * (30 - k) + 22) G6.1.1 ?_))
      · exact fun _ => gj_nextT (go_out (fun _ h => nomatch h) (kq _ _ (mo_err (if_neg e9) (MB.pre F05 W5 ⟨B5, C5⟩ hM))))
      · obtain ⟨b61, b62, b63, b64⟩ := id B6
        have f6n := F6.1
        have f05 := F05.1
        have R6 := hC z σ6 cs me rs _ _ cap5 σ1.nx _ kv e (N5.fm G5.1.1 F6 am7) am7 lo1 hd hrs hcs
        exact kq _ _ (mo_ok (if_pos e9) G6 ho (by omega) (F05.tr F6) (W5.trans S6.ws) ⟨by omega, by omega⟩ ((R6.wide lo8 (by omega) (Nat.le_refl _)).mono (by omega) (by omega)))
    refine cm_M_cases_20 (d := d + 10 * (30 - k) + 22) c2 G2.1.2.1 (fun _ => rm_whens hX 19 0 σ2 w1 _ ops (σ1.nx + 1) 2 σ1.nx 0 ops [] rfl rfl G2 NB2 (Nat.le_refl _) h9 (fun e H hs hM => ?_) (fun cs p' o' σ' w' b' cap' rs' kv' v hs hfst hrl hcl hc1 G' ho' hp' F' W' B' hkv N' => ?_)) (fun q => absurd q one)
    · rw [hs] at kk
      exact kk _ _ (mo_err rfl (MBx.out (MBx.pre F02 S1.ws (by omega) (by omega) hM (fun _ _ q => q) (fun q hq r => by omega))))
    · rw [hs] at kk
      have kk' : ∀ o H, MO z am T L sa lo σ w p ops k hb (match sp_else T L X k p' o' with
          | .error e => .error e
          | .ok (me, p3, o3) => sp_take T L 12 (ex_case cs me) p3 o3) o H → Q o H := kk
      unfold sp_else at kk'
      obtain ⟨b51, b52⟩ := id B'
      have f'n := F'.1
      have hfs : rs'.map Prod.fst = fl2 cs := hfst
      have hr9 : rs'.length ≤ 38 := by have h9' : rs'.length = 0 + 2 * cs.length := hrl; omega
      have F0' : Fm am (fun _ => False) σ σ' := F02.trans F' (fun _ _ q => q) (fun q hq r => by omega)
      have W0' : WS w w' := S1.ws.trans W'
      have ng : σ1.nx + 1 < σ2.nx := by omega
      have b'lo : σ1.nx ≤ b' := N'.2.2.2.2.2.2.2.1.2.1
      refine go_wf fun hw' => mg_take (d := d + 10 * (30 - k) + 15) (g := 11) G' (ms_c292 G'.1.2.2.2.2.2.2.2.1) (by decide) (by decide) (fun g11 _ => gj_nextI ?_) (fun g11 σ3 w3 G3 F3 S3 B3 _ => gj_nextI ?_)
      · rw [if_neg g11] at kk'
        exact cm_M_cases_88 (d := d + 10 * (30 - k) + 22) G'.1.1 N'.1.1 N'.2.2.1 (fun _ => fin2 σ' w' p' o' b' cap' rs' kv' cs ex_null 0 v G' ho' (by omega) N' (Or.inl ⟨rfl, rfl, hfs⟩) (by omega) hc1 F0' W0' (by omega) (by omega) (by omega) kk') (fun q => absurd rfl q)
      · rw [if_pos g11] at kk'
        obtain ⟨b31, b32, b33, b34⟩ := id B3
        have f3n := F3.1
        have N3 := N'.fm G'.1.1 F3 am7
        have N4 := N3.setk am7 1
        have F4 : Fm am (fun q => q = σ1.nx) σ3 (σ3.setI 64 σ1.nx 1) := ⟨Nat.le_refl _, Nat.le_refl _, fun q _ _ hx9 => SameC.setI hx9⟩
        have c4 : CM z (σ3.setI 64 σ1.nx 1) am := ⟨G3.1.1.1, fun i hi => G3.1.1.2 i hi⟩
        refine go_wf fun hw3 => cm_M_cases_88 (d := d + 10 * (30 - k) + 22) G3.1.1 N3.1.1 N3.2.2.1 (fun q => absurd q one) (fun _ => ?_)
        have G4 := G3.fx c4 F4 (fun q e => by rw [e]; exact ⟨Or.inl N3.1.1, N3.2.2.1⟩) hw3
        have F04 : Fm am (fun _ => False) σ (σ3.setI 64 σ1.nx 1) := (F0'.tr F3).trans F4 (fun _ _ q => q) (fun q hq r => by omega)
        have n4 : (σ3.setI 64 σ1.nx 1).nx = σ3.nx := rfl
        have s4 : (σ3.setI 64 σ1.nx 1).sl = σ3.sl := rfl
        generalize σ3.setI 64 σ1.nx 1 = σ4 at N4 c4 G4 F04 n4 s4 ⊢
        refine hX d σ4 w3 _ _ _ G4 (fun o H hMO => ?_)
        have W3 : WS w w3 := W0'.trans S3.ws
        cases hr2 : X (k + 1) (tk_e T L p') o' with
        | error e =>
          rw [hr2] at hMO kk'
          obtain ⟨rfl, hB⟩ := hMO
          exact fun _ => gj_nextT (go_out (fun _ h => nomatch h) (kk' _ _ (mo_err rfl (MB.pre F04 W3 ⟨by omega, by omega⟩ hB))))
        | ok y =>
          obtain ⟨m2, p2, o2⟩ := y
          rw [hr2] at hMO kk'
          obtain ⟨x2, σ5, w5, rfl, rfl, G5, ho5, hp5, F5, W5, B5, R5⟩ := hMO
          intro _
          obtain ⟨b61, b62⟩ := id B5
          have f5n := F5.1
          have N5 := N4.fm c4 F5 am7
          obtain ⟨-, -, -, -, -, nlt4, blt4, -, hPR4⟩ := id N4
          have hPR5 : PR lo σ5 am (hx + (o2 - ops)) σ1.nx b' 0 0 rs' σ1.nx σ4.nx kv' := (hPR4.fm F5 am7 (Nat.le_refl _)).mono (by omega) (Nat.le_refl _)
          have N5' : NB z σ5 am lo (hx + (o2 - ops)) σ1.nx b' 0 0 4 1 rs' cap' σ1.nx kv' := by
            obtain ⟨q1, q2, q3, q4, q5, q6, q7, q9, q8⟩ := N5
            exact ⟨q1, q2, q3, q4, q5, q6, q7, q9, q8.mono (by omega) (Nat.le_refl _)⟩
          refine gj_nextI (go_wf fun hw5 => cm_M_cases_101 (d := d + 10 * (30 - k) + 22) G5.1.1 N5.1.1 (mo_part (d := d + 10 * (30 - k) + 21) N5' G5.1.1 am7 (R5.mono (by omega) (Nat.le_refl _)) hPR5 (Nat.le_refl _) (Or.inl nlt4) (Or.inl blt4) (Or.inr (Nat.zero_le _)) (by omega) (fun σ6 b6 cap6 c6 F6 N6 o6 bd6 n6 s6 e6 _ => gj_nextV (cm_M_cases_104 (d := d + 10 * (30 - k) + 22) c6 ?_))))
          have G6 := G5.fx c6 F6 N5'.tags hw5
          have len1 : (rs' ++ [(m2, x2)]).length = rs'.length + 1 := by rw [List.length_append]; rfl
          have mapf : (rs' ++ [(m2, x2)]).map Prod.fst = fl2 cs ++ [m2] := by rw [List.map_append, hfs]; rfl
          exact fin2 σ6 w5 p2 o2 b6 cap6 _ _ cs m2 1 v G6 (by omega) (by omega) N6 (Or.inr ⟨rfl, mapf⟩) (by omega) hc1 ((F04.tr F5).trans F6 (fun _ _ q => q) (fun q hq r => by omega)) (W3.trans W5) (by omega) (by omega) (by omega) kk'
  · rw [decide_eq_false h9]
    have es : sp_whens T L X k 19 (tk_e T L p) ops = .error (tk_s T L (tk_e T L p)) := by rw [sp_whens, if_neg h9]
    rw [es] at kk
    exact cm_M_cases_20 (d := d + 10 * (30 - k) + 22) c2 G2.1.2.1 (fun q => absurd rfl q) (fun _ => kk _ _ (mo_err rfl (MB.pre F02 S1.ws ⟨by omega, by omega⟩ G2.brk)))
end MCases
