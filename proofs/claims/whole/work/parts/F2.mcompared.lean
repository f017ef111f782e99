/-! ===== the reference's rules: a comparison, IS NULL, NOT ===== -/
def IsnR (am : Nat → Nat) (lo : Nat) (kd : Int32) (mk : Ex → Ex) : Prop := ∀ (σ : Hp) (m1 : Ex) (n x nlo nhi a c h k1 : Nat), ND σ n (n + 1) 8 kd [x] 2 → lo ≤ nlo → nlo ≤ n → n + 2 ≤ nhi → nlo ≤ a → c ≤ nhi → RepN m1 lo a c σ am x h k1 → RepN (mk m1) lo nlo nhi σ am n (h + 1) (k1 + 1)
theorem cmp_str {z : State} {σ : Hp} (h : MSt z σ) : ∀ i, i < 6 → StrO z σ (strZ z "TruthBenchModel" (cmi i)) (sg_chs (18 + i))
  | 0, _ => ms_c416 h
  | 1, _ => ms_c418 h
  | 2, _ => ms_c420 h
  | 3, _ => ms_c422 h
  | 4, _ => ms_c424 h
  | 5, _ => ms_c426 h
section MCompared
variable {z : State} {l : Launch} {am : Nat → Nat} {T : Nat → Int32} {L sa lo k hb : Nat} {X : PX}
/-- a node over one part that was there before it -/
theorem mo_over {d : Nat} {σ : Hp} {w : Wd} {Q : Outcome → Hp → Prop} {n x : Nat} {op kd : Int32} (hc : CM z σ am) (hN : ND σ n (n + 1) op kd [] 2) (hx : σ.tag x = 9) (hz : z.heap.size ≤ n) (hm : mx am (n + 1))
    (kk : ∀ σ', CM z σ' am → Fm am (fun a => a = n ∨ a = n + 1) σ σ' → ND σ' n (n + 1) op kd [x] 2 → σ'.nx = σ.nx → σ'.sl = σ.sl → Q (.returned none) (ov σ' am 7 w)) : Go z l mt_N_add (d + 9) 0 [.ref n, .ref x, .retAddr 0, .retAddr 0] [] (ov σ am 7 w) Q :=
  mo_add (d := d) hc hN hm hx hz (by omega) (Nat.zero_le _) (by decide) (fun i hi => absurd hi (Nat.not_lt_zero _)) (fun σ' b' cap' c' f' N' o' bd' mb' lt' n' s' e' l' => by
    obtain ⟨e1, e2, e3, e4⟩ := e' (by decide)
    subst e3
    subst e4
    exact kk σ' c' f' N' e1 e2)
theorem ex2_tags {σ : Hp} {n : Nat} {op kd : Int32} {ps : List Nat} {cap : Nat} {z : State} (hN : ND σ n (n + 1) op kd ps cap) (hz : z.heap.size ≤ n) : ∀ a, a = n ∨ a = n + 1 → (σ.tag a = 9 ∨ σ.tag a = 26) ∧ z.heap.size ≤ a := fun a q => by
  rcases q with rfl | rfl
  · exact ⟨Or.inl hN.1, hz⟩
  · exact ⟨Or.inr hN.2.2.2.2.1, by omega⟩
/-- a node of the tree is not one that is being made -/
theorem RepH.ex2 {m : Ex} {a c cl ch h kv n x : Nat} {σ σ' : Hp} {op kd : Int32} {ps : List Nat} {cap : Nat} (r : RepH m lo a c cl ch σ am x h kv) (f : Fm am (fun q => q = n ∨ q = n + 1) σ σ') (h1 : c ≤ σ.nx) (h2 : ∀ i, i < 7 → am i < lo) (hN : ND σ n (n + 1) op kd ps cap) (e1 : ¬ Rg a c cl ch n) (e2 : ¬ Rg a c cl ch (n + 1)) : RepH m lo a c cl ch σ' am x h kv :=
  r.mv (f.ag h1 h2 r.1 (fun q hq d => by
    rcases hq with rfl | rfl
    · rcases d with d | d
      · exact e1 d
      · rw [hN.1] at d; exact absurd d.2.2 (by decide)
    · rcases d with d | d
      · exact e2 d
      · rw [hN.2.2.2.2.1] at d; exact absurd d.2.2 (by decide)))
theorem rm_compared (hF : RM z l am T L sa lo mt_M_sum [.ref (am 0), .retAddr 0, .retAddr 0] k 5 hb (sp_sum T L X k)) (hX : RM z l am T L sa lo mt_M_expression [.ref (am 0), .retAddr 0] k 0 hb (X (k + 1))) (hL : PairR am lo 6 (fun _ => 0) ex_2 (fun o => o = 26)) (hI : InR am lo) (hB : BtwR am lo)
    (hC : PairR am lo 9 (fun o => nI (o - 20)) ex_2 (fun o => 20 ≤ o ∧ o ≤ 25)) (hU : IsnR am lo 0 ex_isnull) (hV : IsnR am lo 1 (fun m => ex_1 16 (ex_isnull m))) (hNt : OneR am lo 12 0 (ex_1 16)) : RM z l am T L sa lo mt_M_compared [.ref (am 0), .retAddr 0, .retAddr 0] k 7 (hb + 2) (sp_condB T L X k) := by
  intro d σ0 w0 p0 ops0 Q hG0 kk
  have de5 : d + 1 + 10 * (30 - k) + 30 + 5 = d + 10 * (30 - k) + 36 := by omega
  refine cm_M_compared (d := d + 10 * (30 - k) + 28) hG0.1.1 (go_eq de5 (hF (d + 1) σ0 w0 p0 ops0 _ hG0 (fun o H hMO => ?_)))
  unfold sp_condB at kk
  cases hr : sp_sum T L X k p0 ops0 with
  | error e =>
    rw [hr] at hMO kk
    obtain ⟨rfl, hM⟩ := hMO
    exact fun _ => gj_nextT (go_out (fun _ h => nomatch h) (kk _ _ (mo_err rfl hM)))
  | ok x =>
    obtain ⟨ma, p, ops⟩ := x
    rw [hr] at hMO kk
    obtain ⟨x, σ, w, rfl, rfl, hG, ho0, hp0, hF0, hW0, hB0, hR⟩ := hMO
    intro _
    refine gj_nextI (cm_M_compared_4 (d := d + 10 * (30 - k) + 28) hG.1.1 ?_)
    have hst : MSt z σ := hG.1.2.2.2.2.2.2.2.1
    have am7 := hG.2.2.2.2.2.2.2.2.2
    have lo8 := hG.2.2.2.2.2.2.2.2.1
    have f0n := hF0.1
    obtain ⟨b01, b02⟩ := id hB0
    have g35 : tk_g T L p < 35 := (tk_le (T := T) hG.2.2.2.1).2.2.2.2.2.1
    have one : ¬ (1 : Int32) = 0 := by decide
    have kk' : ∀ o H, MO z am T L sa lo σ0 w0 p0 ops0 k (hb + 2) (sp_cmpr T L X k ma p ops) o H → Q o H := kk
    -- behind the comparisons
    have rest : ¬ (18 ≤ tk_g T L p ∧ tk_g T L p ≤ 23) → Go z l mt_M_take (d + 10 * (30 - k) + 36) 0 [.ref (am 0), .ref (strZ z "TruthBenchModel" 220)] [] (ov σ am 7 w) (fun o σ1 => hp_Le (ov σ am 7 w) σ1 → gj_next z l mt_M_compared (d + 10 * (30 - k) + 37) 47 [.ref (am 0), .ref x, .int (nI 6)] [] Q o σ1) := fun ng => by
      have og0 : ¬ ¬ og_cmp (tk_g T L p) = 0 := fun q => q ((by decide +kernel : ∀ g, g < 35 → ¬ (18 ≤ g ∧ g ≤ 23) → og_cmp g = 0) _ g35 ng)
      refine mg_take (d := d + 10 * (30 - k) + 21) hG (ms_c220 hst) (by decide) (by decide) (fun e3 _ => gj_nextI ?_) (fun e3 σ1 w1 G1 F1 S1 B1 _ => gj_nextI ?_)
      · refine cm_M_compared_50 (d := d + 10 * (30 - k) + 28) hG.1.1 (fun _ => ?_) (fun q => absurd rfl q)
        refine mg_take (d := d + 10 * (30 - k) + 21) hG (ms_c208 hst) (by decide) (by decide) (fun e2 _ => gj_nextI ?_) (fun e2 σ1 w1 G1 F1 S1 B1 _ => gj_nextI ?_)
        · -- neither: IN, LIKE, BETWEEN or nothing
          have es : sp_cmpr T L X k ma p ops = sp_within T L X k ma false p ops := by
            unfold sp_cmpr
            rw [if_neg og0, if_neg e3, if_neg e2]
          rw [es] at kk'
          refine cm_M_compared_92 (d := d + 10 * (30 - k) + 28) hG.1.1 (fun q => absurd rfl q) (fun _ => ?_)
          refine rm_within (d := d) (nd := false) (hl := 0) (hh := 0) hF hX hL hI hB hG ho0 hp0 hF0 hW0 hB0 hR (Nat.le_refl _) (Or.inr rfl) (Nat.zero_le _) (fun o H hMO => ?_)
          cases hr2 : sp_within T L X k ma false p ops with
          | error e =>
            rw [hr2] at hMO kk'
            obtain ⟨rfl, hM⟩ := hMO
            exact fun _ => gj_nextT (go_out (fun _ h => nomatch h) (kk' _ _ (mo_err rfl hM)))
          | ok y =>
            obtain ⟨m2, p2, o2⟩ := y
            rw [hr2] at hMO kk'
            obtain ⟨y, σ2, w2, rfl, rfl, G2, ho2, hp2, F2, W2, B2, R2⟩ := hMO
            intro _
            exact gj_nextI (cm_M_compared_101 (d := d + 10 * (30 - k) + 28) G2.1.1 (kk' _ _ (mo_ok rfl G2 ho2 hp2 F2 W2 B2 (R2.mono (by omega) (Nat.le_refl _)))))
        · -- NOT IN, NOT LIKE, NOT BETWEEN
          obtain ⟨b11, b12, b13, b14⟩ := id B1
          have f1n := F1.1
          have es : sp_cmpr T L X k ma p ops = match sp_within T L X k ma true (tk_e T L p) ops with
              | .error e => .error e
              | .ok (m, p2, o2) => .ok (ex_1 16 m, p2, o2) := by
            unfold sp_cmpr
            rw [if_neg og0, if_neg e3, if_pos e2]
          rw [es] at kk'
          refine go_wf fun hw1 => cm_M_compared_92 (d := d + 10 * (30 - k) + 28) G1.1.1 (fun _ => mo_node (d := d + 10 * (30 - k) + 27) G1.1.1 (fun σ2 c2 F2 N2 n2 s2 z2 _ => gj_nextI ?_)) (fun q => absurd q one)
          have G2 := G1.fr c2 F2 hw1
          have f2n := F2.1
          have Ra : RepN ma lo σ0.nx σ.nx σ2 am x (hb + (ops - ops0)) (2 * (p - p0)) := (hR.fm F1 (Nat.le_refl _) am7).fm F2 f1n am7
          have F02 : Fm am (fun _ => False) σ0 σ2 := (hF0.tr F1).tr F2
          refine cm_M_compared_108 (d := d + 10 * (30 - k) + 28) c2 ?_
          refine rm_within (d := d) (nd := true) (va := σ.nx) (hl := σ1.nx) (hh := σ1.nx + 2) hF hX hL hI hB G2 ho0 (by omega) F02 (hW0.trans S1.ws) ⟨by omega, by omega⟩ (Ra.mono (Nat.le_refl _) (by omega)) (by omega) (Or.inl f1n) (by omega) (fun o H hMO => ?_)
          cases hr2 : sp_within T L X k ma true (tk_e T L p) ops with
          | error e =>
            rw [hr2] at hMO kk'
            obtain ⟨rfl, hM⟩ := hMO
            exact fun _ => gj_nextT (go_out (fun _ h => nomatch h) (kk' _ _ (mo_err rfl hM)))
          | ok y =>
            obtain ⟨m2, p2, o2⟩ := y
            rw [hr2] at hMO kk'
            obtain ⟨y, σ3, w3, rfl, rfl, G3, ho3, hp3, F3, W3, B3, R3⟩ := hMO
            intro _
            have mn : mx am (σ1.nx + 1) := fun i hi e => by have := am7 i hi; omega
            sorry
      · -- IS NULL, IS NOT NULL
        sorry
    sorry
end MCompared
