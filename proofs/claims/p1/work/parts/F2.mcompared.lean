/-! ===== the reference's rules: a comparison, IS NULL, NOT ===== -/
theorem cmp_str {z : State} {σ : Hp} (h : MSt z σ) : ∀ i, i < 6 → StrO z σ (strZ z "TruthBenchModel" (cmi i)) (sg_chs (18 + i))
  | 0, _ => ms_c416 h
  | 1, _ => ms_c418 h
  | 2, _ => ms_c420 h
  | 3, _ => ms_c422 h
  | 4, _ => ms_c424 h
  | 5, _ => ms_c426 h
section MCompared
variable {z : State} {l : Launch} {am : Nat → Nat} {T : Nat → Int32} {L sa lo k hb : Nat} {X : PX}
/-- a node over one part that was there before it -/
theorem mo_over {d : Nat} {σ : Hp} {w : Wd} {Q : Outcome → Hp → Prop} {n x : Nat} {op kd : Int32} (hc : CM z σ am) (hN : ND σ n (n + 1) op kd [] 2) (hx : σ.tag x = 9) (hz : z.heap.size ≤ n) (hm : mx am (n + 1))
    (kk : ∀ σ', CM z σ' am → Fm am (fun a => a = n ∨ a = n + 1) σ σ' → ND σ' n (n + 1) op kd [x] 2 → σ'.nx = σ.nx → σ'.sl = σ.sl → Q (.returned none) (ov σ' am 7 w)) : Go z l mt_N_add (d + 9) 0 [.ref n, .ref x, .retAddr 0, .retAddr 0] [] (ov σ am 7 w) Q :=
  mo_add (d := d) hc hN hm hx hz (by omega) (Nat.zero_le _) (by decide) (fun i hi => absurd hi (Nat.not_lt_zero _)) (fun σ' b' cap' c' f' N' o' bd' mb' lt' n' s' e' l' => by
    obtain ⟨e1, e2, e3, e4⟩ := e' (by decide)
    subst e3
    subst e4
    exact kk σ' c' f' N' e1 e2)
theorem ex2_tags {σ : Hp} {n : Nat} {op kd : Int32} {ps : List Nat} {cap : Nat} {z : State} (hN : ND σ n (n + 1) op kd ps cap) (hz : z.heap.size ≤ n) : ∀ a, a = n ∨ a = n + 1 → (σ.tag a = 9 ∨ σ.tag a = 26) ∧ z.heap.size ≤ a := fun a q => by
  rcases q with rfl | rfl
  · exact ⟨Or.inl hN.1, hz⟩
  · exact ⟨Or.inr hN.2.2.2.2.1, by omega⟩
/-- a node of the tree is not one that is being made -/
theorem RepH.ex2 {m : Ex} {a c cl ch h kv n x : Nat} {σ σ' : Hp} {op kd : Int32} {ps : List Nat} {cap : Nat} (r : RepH m lo a c cl ch σ am x h kv) (f : Fm am (fun q => q = n ∨ q = n + 1) σ σ') (h1 : c ≤ σ.nx) (h2 : ∀ i, i < 7 → am i < lo) (hN : ND σ n (n + 1) op kd ps cap) (e1 : ¬ Rg a c cl ch n) (e2 : ¬ Rg a c cl ch (n + 1)) : RepH m lo a c cl ch σ' am x h kv :=
  r.mv (f.ag h1 h2 r.1 (fun q hq d => by
    rcases hq with rfl | rfl
    · rcases d with d | d
      · exact e1 d
      · rw [hN.1] at d; exact absurd d.2.2 (by decide)
    · rcases d with d | d
      · exact e2 d
      · rw [hN.2.2.2.2.1] at d; exact absurd d.2.2 (by decide)))
theorem rm_compared (hF : RM z l am T L sa lo mt_M_sum [.ref (am 0), .retAddr 0, .retAddr 0] k 5 hb (sp_sum T L X k)) (hX : RM z l am T L sa lo mt_M_expression [.ref (am 0), .retAddr 0] k 0 hb (X (k + 1))) (hL : PairR am lo 6 (fun _ => 0) ex_2 (fun o => o = 26)) (hI : InR am lo) (hB : BtwR am lo)
    (hC : PairR am lo 9 (fun o => nI (o - 20)) ex_2 (fun o => 20 ≤ o ∧ o ≤ 25)) (hU : IsnR am lo 0 ex_isnull) (hV : IsnR am lo 1 (fun m => ex_1 16 (ex_isnull m))) (hNt : OneR am lo 12 0 (ex_1 16)) : RM z l am T L sa lo mt_M_compared [.ref (am 0), .retAddr 0, .retAddr 0] k 7 (hb + 2) (sp_condB T L X k) := by
  intro d σ0 w0 p0 ops0 Q hG0 kk
  have de5 : d + 1 + 10 * (30 - k) + 30 + 5 = d + 10 * (30 - k) + 36 := by omega
  refine cm_M_compared (d := d + 10 * (30 - k) + 28) hG0.1.1 (go_eq de5 (hF (d + 1) σ0 w0 p0 ops0 _ hG0 (fun o H hMO => ?_)))
  unfold sp_condB at kk
  cases hr : sp_sum T L X k p0 ops0 with
  | error e =>
    rw [hr] at hMO kk
    obtain ⟨rfl, hM⟩ := hMO
    exact fun _ => gj_nextT (go_out (fun _ h => nomatch h) (kk _ _ (mo_err rfl hM)))
  | ok x =>
    obtain ⟨ma, p, ops⟩ := x
    rw [hr] at hMO kk
    obtain ⟨x, σ, w, rfl, rfl, hG, ho0, hp0, hF0, hW0, hB0, hR⟩ := hMO
    intro _
    refine gj_nextI (cm_M_compared_4 (d := d + 10 * (30 - k) + 28) hG.1.1 ?_)
    have hst : MSt z σ := hG.1.2.2.2.2.2.2.2.1
    have am7 := hG.2.2.2.2.2.2.2.2.2
    have lo8 := hG.2.2.2.2.2.2.2.2.1
    have f0n := hF0.1
    obtain ⟨b01, b02⟩ := id hB0
    have g35 : tk_g T L p < 35 := (tk_le (T := T) hG.2.2.2.1).2.2.2.2.2.1
    have one : ¬ (1 : Int32) = 0 := by decide
    have kk' : ∀ o H, MO z am T L sa lo σ0 w0 p0 ops0 k (hb + 2) (sp_cmpr T L X k ma p ops) o H → Q o H := kk
    -- behind the comparisons
    have rest : ¬ (18 ≤ tk_g T L p ∧ tk_g T L p ≤ 23) → Go z l mt_M_take (d + 10 * (30 - k) + 36) 0 [.ref (am 0), .ref (strZ z "TruthBenchModel" 220)] [] (ov σ am 7 w) (fun o σ1 => hp_Le (ov σ am 7 w) σ1 → gj_next z l mt_M_compared (d + 10 * (30 - k) + 37) 47 [.ref (am 0), .ref x, .int (nI 6)] [] Q o σ1) := fun ng => by
      have og0 : ¬ ¬ og_cmp (tk_g T L p) = 0 := fun q => q ((by decide +kernel : ∀ g, g < 35 → ¬ (18 ≤ g ∧ g ≤ 23) → og_cmp g = 0) _ g35 ng)
      refine mg_take (d := d + 10 * (30 - k) + 21) (g := 3) hG (ms_c220 hst) (by decide) (by decide) (fun e3 _ => gj_nextI ?_) (fun e3 σ1 w1 G1 F1 S1 B1 _ => gj_nextI ?_)
      · refine cm_M_compared_50 (d := d + 10 * (30 - k) + 28) hG.1.1 (fun _ => ?_) (fun q => absurd rfl q)
        refine mg_take (d := d + 10 * (30 - k) + 21) (g := 2) hG (ms_c208 hst) (by decide) (by decide) (fun e2 _ => gj_nextI ?_) (fun e2 σ1 w1 G1 F1 S1 B1 _ => gj_nextI ?_)
        · -- neither: IN, LIKE, BETWEEN or nothing
          have es : sp_cmpr T L X k ma p ops = sp_within T L X k ma false p ops := by
            unfold sp_cmpr
            rw [if_neg og0, if_neg e3, if_neg e2]
          rw [es] at kk'
          refine cm_M_compared_92 (d := d + 10 * (30 - k) + 28) hG.1.1 (fun q => absurd rfl q) (fun _ => ?_)
          refine rm_within (d := d) (p0 := p0) (nd := false) (hl := 0) (hh := 0) hF hX hL hI hB hG ho0 hp0 hF0 hW0 hB0 hR (Nat.le_refl _) (Or.inr rfl) (Nat.zero_le _) (fun e H hs hM => ?_) (fun m2 p2 o2 y σ2 w2 hs G2 ho2 hp2 hpp F2 _ W2 B2 R2 => ?_)
          · exact fun _ => gj_nextT (go_out (fun _ h => nomatch h) (kk' _ _ (mo_err hs hM)))
          · exact fun _ => gj_nextI (cm_M_compared_101 (d := d + 10 * (30 - k) + 28) G2.1.1 (kk' _ _ (mo_ok hs G2 ho2 hp2 F2 W2 B2 (R2.mono (by omega) (by omega)))))
        · -- NOT IN, NOT LIKE, NOT BETWEEN
          obtain ⟨b11, b12, b13, b14⟩ := id B1
          have f1n := F1.1
          have es : sp_cmpr T L X k ma p ops = match sp_within T L X k ma true (tk_e T L p) ops with
              | .error e => .error e
              | .ok (m, p2, o2) => .ok (ex_1 16 m, p2, o2) := by
            unfold sp_cmpr
            rw [if_neg og0, if_neg e3, if_pos e2]
            cases sp_within T L X k ma true (tk_e T L p) ops with
            | error e => rfl
            | ok y => rfl
          rw [es] at kk'
          refine go_wf fun hw1 => cm_M_compared_92 (d := d + 10 * (30 - k) + 28) G1.1.1 (fun _ => mo_node (d := d + 10 * (30 - k) + 27) G1.1.1 (fun σ2 c2 F2 N2 n2 s2 z2 _ => gj_nextI ?_)) (fun q => absurd q one)
          have G2 := G1.fr c2 F2 hw1
          have f2n := F2.1
          have Ra : RepN ma lo σ0.nx σ.nx σ2 am x (hb + (ops - ops0)) (2 * (p - p0)) := (hR.fm F1 (Nat.le_refl _) am7).fm F2 f1n am7
          have F02 : Fm am (fun _ => False) σ0 σ2 := (hF0.tr F1).tr F2
          refine cm_M_compared_108 (d := d + 10 * (30 - k) + 28) c2 ?_
          refine rm_within (d := d) (p0 := p0) (nd := true) (va := σ.nx) (hl := σ1.nx) (hh := σ1.nx + 2) hF hX hL hI hB G2 ho0 (by omega) F02 (hW0.trans S1.ws) ⟨by omega, by omega⟩ Ra (by omega) (Or.inl f1n) (by omega) (fun e H hs hM => ?_) (fun m2 p2 o2 y σ3 w3 hs G3 ho3 hp3 hpp F3 Fe W3 B3 R3 => ?_)
          · rw [hs] at kk'
            exact fun _ => gj_nextT (go_out (fun _ h => nomatch h) (kk' _ _ (mo_err rfl hM)))
          · rw [hs] at kk'
            intro _
            have mn : mx am (σ1.nx + 1) := fun i hi e => by have := am7 i hi; omega
            have fen := Fe.1
            have N3 : ND σ3 σ1.nx (σ1.nx + 1) 12 0 [] 2 := N2.mv (Fe.2.2 _ (by omega) (c2.out N2.1 rfl) (fun q => q)) (Fe.2.2 _ (by omega) mn (fun q => q))
            obtain ⟨b31, b32⟩ := id B3
            refine gj_nextI (go_wf fun hw3 => cm_M_compared_116 (d := d + 10 * (30 - k) + 28) G3.1.1 N3.1 (mo_over (d := d + 10 * (30 - k) + 27) G3.1.1 N3 R3.2.2.2.1 z2 mn (fun σ4 c4 F4 N4 n4 s4 _ => gj_nextV (cm_M_compared_119 (d := d + 10 * (30 - k) + 28) c4 ?_))))
            have G4 := G3.fx c4 F4 (ex2_tags N3 z2) hw3
            have R4 := R3.ex2 F4 (Nat.le_refl _) am7 N3 (fun q => q.2.2 ⟨Nat.le_refl _, by omega⟩) (fun q => q.2.2 ⟨by omega, by omega⟩)
            have R5 := hNt σ4 m2 σ1.nx y σ0.nx σ4.nx σ0.nx σ3.nx _ _ _ _ N4 hR.1 (by omega) (by omega) (Nat.le_refl _) (by omega) R4
            have F04 : Fm am (fun _ => False) σ0 σ4 := F3.trans F4 (fun _ _ q => q) (fun a ha q => by omega)
            exact kk' _ _ (mo_ok rfl G4 ho3 hp3 F04 W3 ⟨by omega, by omega⟩ (R5.mono (by omega) (by omega)))
      · -- IS NULL, IS NOT NULL
        obtain ⟨b11, b12, b13, b14⟩ := id B1
        have f1n := F1.1
        have es : sp_cmpr T L X k ma p ops = sp_isnull T L ma (tk_e T L p) ops := by
          unfold sp_cmpr
          rw [if_neg og0, if_pos e3]
        rw [es] at kk'
        unfold sp_isnull at kk'
        have W1 : WS w0 w1 := hW0.trans S1.ws
        -- the node, NULL, the part
        have fin : ∀ (kd : Int32) (mk : Ex → Ex) (σ2 : Hp) (w2 : Wd) (p2 : Nat) (v2 : Int32), IsnR am lo kd mk → MG z σ2 am w2 T L sa lo p2 ops k → p + 1 ≤ p2 → Fm am (fun _ => False) σ0 σ2 → Fm am (fun _ => False) σ σ2 → WS w0 w2 → Bt T L σ σ2 p p2 → (∀ o H, MO z am T L sa lo σ0 w0 p0 ops0 k (hb + 2) (sp_take T L 4 (mk ma) p2 ops) o H → Q o H) → Go z l mt_M_node (d + 10 * (30 - k) + 36) 0 [.int 8, .int kd, .retAddr 0] [] (ov σ2 am 7 w2) (fun o σ1 => hp_Le (ov σ2 am 7 w2) σ1 → gj_next z l mt_M_compared (d + 10 * (30 - k) + 37) 69 [.ref (am 0), .ref x, .int v2] [] Q o σ1) := fun kd mk σ2 w2 p2 v2 hMk G2 hpp F02 Fs W2 B2 kq => by
          obtain ⟨b21, b22, b23, b24⟩ := id B2
          refine go_wf fun hw2 => mo_node (d := d + 10 * (30 - k) + 27) G2.1.1 (fun σ3 c3 F3 N3 n3 s3 z3 _ => gj_nextI ?_)
          have G3 := G2.fr c3 F3 hw2
          have fsn := Fs.1
          have lo2 := G2.2.2.2.2.2.2.2.2.1
          have mn : mx am (σ2.nx + 1) := fun i hi e => by have := am7 i hi; omega
          refine cm_M_compared_72 (d := d + 10 * (30 - k) + 28) c3 (mg_need (d := d + 10 * (30 - k) + 20) (g := 4) G3 (ms_c221 G3.1.2.2.2.2.2.2.2.1) (by decide) (by decide) (fun e4 H hM => ?_) (fun e4 σ4 w4 G4 F4 S4 B4 _ => gj_nextV ?_))
          · exact fun _ => gj_nextT (go_out (fun _ h => nomatch h) (kq _ _ (mo_err (if_neg e4) (MB.pre (F02.tr F3) W2 ⟨by omega, by omega⟩ hM))))
          · obtain ⟨b41, b42, b43, b44⟩ := id B4
            have f4n := F4.1
            have N4 : ND σ4 σ2.nx (σ2.nx + 1) 8 kd [] 2 := N3.mv (F4.2.2 _ (by omega) (c3.out N3.1 rfl) (fun q => q)) (F4.2.2 _ (by omega) mn (fun q => q))
            have Ra : RepN ma lo σ0.nx σ.nx σ4 am x (hb + (ops - ops0)) (2 * (p - p0)) := hR.fm ((Fs.tr F3).tr F4) (Nat.le_refl _) am7
            refine go_wf fun hw4 => cm_M_compared_79 (d := d + 10 * (30 - k) + 28) G4.1.1 N4.1 (mo_over (d := d + 10 * (30 - k) + 27) G4.1.1 N4 Ra.2.2.2.1 z3 mn (fun σ5 c5 F5 N5 n5 s5 _ => gj_nextV (cm_M_compared_84 (d := d + 10 * (30 - k) + 28) c5 ?_)))
            have G5 := G4.fx c5 F5 (ex2_tags N4 z3) hw4
            have R5 := Ra.ex2 F5 (by omega) am7 N4 (fun q => by have := q.2.1; omega) (fun q => by have := q.2.1; omega)
            have R6 := hMk σ5 ma σ2.nx x σ0.nx σ5.nx σ0.nx σ.nx _ _ N5 hR.1 (by omega) (by omega) (Nat.le_refl _) (by omega) R5
            have F05 : Fm am (fun _ => False) σ0 σ5 := ((F02.tr F3).tr F4).trans F5 (fun _ _ q => q) (fun a ha q => by omega)
            exact kq _ _ (mo_ok (if_pos e4) G5 ho0 (by omega) F05 (W2.trans S4.ws) ⟨by omega, by omega⟩ (R6.mono (by omega) (by omega)))
        refine cm_M_compared_50 (d := d + 10 * (30 - k) + 28) G1.1.1 (fun q => absurd q one) (fun _ => ?_)
        refine mg_take (d := d + 10 * (30 - k) + 21) (g := 2) G1 (ms_c208 G1.1.2.2.2.2.2.2.2.1) (by decide) (by decide) (fun e2 _ => gj_nextI ?_) (fun e2 σ2 w2 G2 F2 S2 B2 _ => gj_nextI ?_)
        · rw [if_neg e2] at kk'
          exact cm_M_compared_61 (d := d + 10 * (30 - k) + 28) G1.1.1 (fun _ => fin 0 ex_isnull σ1 w1 _ _ hU G1 b13 (hF0.tr F1) F1 W1 B1 kk') (fun q => absurd rfl q)
        · rw [if_pos e2] at kk'
          obtain ⟨b21, b22, b23, b24⟩ := id B2
          exact cm_M_compared_61 (d := d + 10 * (30 - k) + 28) G2.1.1 (fun q => absurd q one) (fun _ => fin 1 (fun m => ex_1 16 (ex_isnull m)) σ2 w2 _ _ hV G2 (by omega) ((hF0.tr F1).tr F2) (F1.tr F2) (W1.trans S2.ws) ⟨by omega, by omega, by omega, b24⟩ kk')
    -- the comparisons, one by one
    have loop : ∀ (c i : Nat), i + c = 6 → ¬ (18 ≤ tk_g T L p ∧ tk_g T L p < 18 + i) → Go z l mt_M_compared (d + 10 * (30 - k) + 37) 7 [.ref (am 0), .ref x, .int (nI i)] [] (ov σ am 7 w) Q := by
      intro c
      induction c with
      | zero =>
        intro i hi ng
        obtain rfl : i = 6 := by omega
        have c6 : (6 : Int32) ≤ nI 6 := by decide
        exact cm_M_compared_7 (d := d + 10 * (30 - k) + 28) (b2 := 0) hG.1.1 hG.1.2.1 (fun _ => rest (by omega)) (fun q => absurd c6 q) (fun q => absurd c6 q) (fun q => absurd c6 q)
      | succ c ih =>
        intro i hi ng
        have c6 : ¬ (6 : Int32) ≤ nI i := fun q => absurd (show nI 6 ≤ nI i from q) (nI_ge (by omega) (by decide))
        have ei : (nI i).toNatClampNeg = i := nI_clamp (by omega)
        have ea : w.eA 6 i = some (strZ z "TruthBenchModel" (cmi i)) := hG.1.2.2.2.2.2.2.2.2.2 i (by omega)
        refine cm_M_compared_7 (d := d + 10 * (30 - k) + 28) (b2 := strZ z "TruthBenchModel" (cmi i)) hG.1.1 hG.1.2.1 (fun q => absurd q c6) (fun _ => vp_in_nI (by omega) (by omega)) (fun _ => by rw [ei]; exact ea) (fun _ => ?_)
        refine mg_take (d := d + 10 * (30 - k) + 21) hG (cmp_str hst i (by omega)) (by omega) (Or.inr (by omega)) (fun e _ => gj_nextI (cm_M_compared_23 (d := d + 10 * (30 - k) + 28) hG.1.1 (fun _ => ?_) (fun q => absurd rfl q))) (fun e σ1 w1 G1 F1 S1 B1 _ => gj_nextI (cm_M_compared_23 (d := d + 10 * (30 - k) + 28) G1.1.1 (fun q => absurd q one) (fun _ => ?_)))
        · rw [nI_1]
          exact ih (i + 1) (by omega) (by omega)
        · obtain ⟨b11, b12, b13, b14⟩ := id B1
          have f1n := F1.1
          have og : og_cmp (tk_g T L p) = 20 + i := by
            rw [e]
            exact (by decide +kernel : ∀ i, i < 6 → og_cmp (18 + i) = 20 + i) i (by omega)
          have es : sp_cmpr T L X k ma p ops = sp_two T L X k (20 + i) ma (tk_e T L p) ops := by
            unfold sp_cmpr
            rw [og, if_pos (by omega)]
          rw [es] at kk'
          unfold sp_two at kk'
          have W1 : WS w0 w1 := hW0.trans S1.ws
          refine go_eq de5 (hF (d + 1) σ1 w1 _ _ _ G1 (fun o H hMO => ?_))
          cases hr2 : sp_sum T L X k (tk_e T L p) ops with
          | error e =>
            rw [hr2] at hMO kk'
            obtain ⟨rfl, hM⟩ := hMO
            exact fun _ => gj_nextT (go_out (fun _ h => nomatch h) (kk' _ _ (mo_err rfl (MB.pre (hF0.tr F1) W1 ⟨by omega, by omega⟩ hM))))
          | ok y =>
            obtain ⟨m2, p2, o2⟩ := y
            rw [hr2] at hMO kk'
            obtain ⟨y2, σ4, w4, rfl, rfl, G4, ho4, hp4, F4, W4, B4, R4⟩ := hMO
            intro _
            obtain ⟨b41, b42⟩ := id B4
            have f4n := F4.1
            have R1 : RepN ma lo σ0.nx σ.nx σ4 am x (hb + (ops - ops0)) (2 * (p - p0)) := hR.fm (F1.tr F4) (Nat.le_refl _) am7
            refine gj_nextI (go_wf fun hw4 => cm_M_compared_34 (d := d + 10 * (30 - k) + 28) G4.1.1 (mo_pair (d := d + 10 * (30 - k) + 26) G4.1.1 R1.2.2.2.1 R4.2.2.2.1 (fun σ5 c5 F5 N5 n5 s5 _ => gj_nextI (cm_M_compared_37 (d := d + 10 * (30 - k) + 28) c5 ?_))))
            have r1 := R1.fm F5 (by omega) am7
            have r2 := R4.fm F5 (Nat.le_refl _) am7
            have N5' : ND σ5 σ4.nx (σ4.nx + 1) 9 (nI (20 + i - 20)) [x, y2] 2 := by rw [show 20 + i - 20 = i by omega]; exact N5
            have R5 := hC (20 + i) σ5 ma m2 σ4.nx x y2 σ0.nx σ.nx σ1.nx σ4.nx σ5.nx (hb + (o2 - ops0)) _ _ 0 0 ⟨by omega, by omega⟩ N5' f1n (Nat.le_refl _) (by omega) (fun r _ q => absurd q (Nat.not_lt_zero _)) (r1.mono (by omega) (Nat.le_refl _)) (r2.mono (by omega) (Nat.le_refl _))
            exact kk' _ _ (mo_ok rfl (G4.fr c5 F5 hw4) (by omega) (by omega) (((hF0.tr F1).tr F4).tr F5) (W1.trans W4) ⟨by omega, by omega⟩ (R5.mono (by omega) (by omega)))
    exact loop 6 0 rfl (by omega)
end MCompared
