/-! ===== the reference's rules: what stands by itself ===== -/
def FunR (am : Nat → Nat) (lo : Nat) : Prop := ∀ (z : State) (σ : Hp) (rs : List (Ex × Nat)) (n b nm cap u h kv : Nat) (cs : List Int32), NB z σ am lo h n b 0 0 3 0 rs cap u kv → (∀ i, i < 7 → am i < lo) → lo ≤ u → rs.length ≤ 8 → σ.A 65 n = some nm → StrM σ am nm cs → cs.length ≤ 1000 → lo ≤ nm → nm < σ.nx → (∀ r, σ.A 81 nm = some r → lo ≤ r ∧ r < σ.nx) → RepN (ex_fun (35 + sc_idx cs sc_funs) (rs.map Prod.fst)) lo u σ.nx σ am n (h + 1) (kv + 2)
section MPrim
variable {z : State} {l : Launch} {am : Nat → Nat} {T : Nat → Int32} {L sa lo k hb hx : Nat} {X : PX}
/-- a string outlives what comes later -/
theorem str_fm {σ σ' : Hp} {w : Wd} {ex : Nat → Prop} {a : Nat} {cs : List Int32} (hS : StrM σ am a cs) (hc : CM z σ am) (f : Fm am ex σ σ') (hx : ∀ a, ex a → σ.tag a = 9 ∨ σ.tag a = 26) (hw : hp_wf (ov σ am 7 w)) : StrM σ' am a cs ∧ σ'.A 81 a = σ.A 81 a ∧ a < σ.nx ∧ ∀ b, σ.A 81 a = some b → b < σ.nx := by
  have tagne : ∀ a, σ.tag a ≠ 0 → a < σ.nx := fun a ha => hw.lt (show (ov σ am 7 w).tag a ≠ 0 from ha)
  have ha : a < σ.nx := tagne a (by rw [hS.1.1]; decide)
  have sa := f.2.2 a ha (hc.out hS.1.1 rfl) (fun q => by have := hx a q; rw [hS.1.1] at this; exact absurd this (by decide))
  obtain ⟨⟨s1, s2, b9, hb9, tb, s5, s6⟩, mb⟩ := id hS
  have bl : b9 < σ.nx := tagne b9 (by rw [tb]; decide)
  refine ⟨hS.mv sa (fun b hb => ?_), (sa.2.2.1 81).2.2, ha, fun b hb => ?_⟩
  · obtain rfl : b9 = b := Option.some.inj (hb9.symm.trans hb)
    exact f.2.2 b9 bl (mb b9 hb9) (fun q => by have := hx b9 q; rw [tb] at this; exact absurd this (by decide))
  · obtain rfl : b9 = b := Option.some.inj (hb9.symm.trans hb)
    exact bl
theorem low_sm {c : Int32} (hB : isB c) (h : sc_let c) : sm (sc_low c) := by
  rcases isB_cases hB with ⟨j, hj, e⟩ | ⟨j, hj1, hj2, e⟩
  · rw [e] at h ⊢
    obtain ⟨i, hi, e9⟩ := (by decide +kernel : ∀ j, j < 128 → sc_let (nI j) → ∃ i, i < 127 ∧ sc_low (nI j) = nI i) j (by omega) h
    exact ⟨i, by omega, e9⟩
  · rw [e] at h
    exact absurd h ((by decide +kernel : ∀ j, j < 129 → 1 ≤ j → ¬ sc_let (-nI j)) j (by omega) hj1)
theorem lows_0 {s e : Nat} (h : s < e) : (sc_lows T s e).getD 0 0 = sc_low (T s) := by
  have h1 : 0 < e - s := by omega
  simp [sc_lows, List.getD, h1]
theorem reg_m : ∀ j, j < 127 → 97 ≤ nI j → nI j ≤ 104 → (nI j - 97).toNatClampNeg < 8 ∧ nI j - 97 = nI (nI j - 97).toNatClampNeg := by decide +kernel
theorem rm_prim (hX : RM z l am T L sa lo mt_M_expression [.ref (am 0), .retAddr 0] k 0 hx (X (k + 1))) (hC : ∀ (d : Nat) (σ : Hp) (w : Wd) (p ops : Nat) (Q : Outcome → Hp → Prop), tk_g T L p = 8 → MG z σ am w T L sa lo p ops k → (∀ o H, MO z am T L sa lo σ w p ops k hb (sp_case T L X k p ops) o H → Q o H) → Go z l mt_M_cases (d + 10 * (30 - k) + 31) 0 [.ref (am 0), .retAddr 0, .retAddr 0] [] (ov σ am 7 w) Q) (hF : FunR am lo) (hh : hx + 1 ≤ hb) :
    RM z l am T L sa lo mt_M_primary [.ref (am 0), .retAddr 0, .retAddr 0, .retAddr 0] k 2 hb (sp_prim T L X k) := by
  intro d σ w p ops Q hG kk
  have hst : MSt z σ := hG.1.2.2.2.2.2.2.2.1
  have am7 := hG.2.2.2.2.2.2.2.2.2
  have lo8 := hG.2.2.2.2.2.2.2.2.1
  have tl := tk_le (T := T) hG.2.2.2.1
  have g35 : tk_g T L p < 35 := tl.2.2.2.2.2.1
  obtain ⟨tk3, tk4, tk2⟩ := tok_kind hG.2.1
  have one : ¬ (1 : Int32) = 0 := by decide
  unfold sp_prim at kk
  -- a constant's node, then the next sign
  have fin : ∀ (x : Va) (m : Ex) (σ1 : Hp) (n v : Nat) (pc : Nat), ex_lit x = m → EX_S (ex_lit x) → k4 x.1 → ¬ tk_g T L p = 33 → ¬ tk_g T L p = 34 → MG z σ1 am w T L sa lo p ops k → Fm am (fun _ => False) σ σ1 → ND σ1 n (n + 1) 0 0 [] 2 → σ1.A 66 n = some v → VM σ1 am v x → lo ≤ v → v < σ1.nx → (∀ t, σ1.A 73 v = some t → lo ≤ t ∧ t < σ1.nx) → n = σ.nx → σ.nx + 2 ≤ σ1.nx → σ1.nx ≤ σ.nx + 4 → σ1.sl ≤ σ.sl + 53 → (∀ o H, MO z am T L sa lo σ w p ops k hb (.ok (m, tk_e T L p, ops)) o H → Q o H) → (∀ (σ2 : Hp) (w2 : Wd), CM z σ2 am → Q (.returned (some (.ref n))) (ov σ2 am 7 w2) → Go z l mt_M_primary (d + 10 * (30 - k) + 32) (pc + 3) [.ref (am 0), .ref n, .retAddr 0, .retAddr 0] [] (ov σ2 am 7 w2) Q) →
      Go z l mt_M_next (d + 10 * (30 - k) + 31) 0 [.ref (am 0), .retAddr 0, .retAddr 0, .retAddr 0] [] (ov σ1 am 7 w) (fun o σ2 => hp_Le (ov σ1 am 7 w) σ2 → gj_next z l mt_M_primary (d + 10 * (30 - k) + 32) pc [.ref (am 0), .ref n, .retAddr 0, .retAddr 0] [] Q o σ2) := by
    intro x m σ1 n v pc em eS ek g33 g34 G1 F1 N1 A1 V1 vlo vhi tlo en b1 b2 b3 kq ret
    subst en
    have R1 : RepN (ex_lit x) lo σ.nx σ1.nx σ1 am σ.nx 1 0 := rn_lit N1 A1 V1 eS ek (Or.inr ⟨vlo, vhi, Or.inl V1.1⟩) (fun t ht => Or.inr ⟨(tlo t ht).1, (tlo t ht).2, Or.inr (Or.inr (by
      obtain ⟨-, -, -, m9, -, -, t9, ht9, tt, -⟩ := V1
      obtain rfl : t9 = t := Option.some.inj (ht9.symm.trans ht)
      exact tt))⟩) lo8 ⟨Nat.le_refl _, by omega⟩ ⟨Nat.le_succ _, by omega⟩
    refine mg_next (d := d + 10 * (30 - k) + 17) G1 g33 g34 (fun σ2 w2 G2 F2 S2 B2 _ => gj_nextV (ret σ2 w2 G2.1.1 ?_))
    obtain ⟨b21, b22, b23, b24⟩ := id B2
    have f2n := F2.1
    rw [em] at R1
    exact kq _ _ (mo_ok rfl G2 (Nat.le_refl _) b23 (F1.tr F2) S2.ws ⟨by omega, by omega⟩ (((R1.fm F2 (Nat.le_refl _) am7).wide lo8 (Nat.le_refl _) f2n).mono (by omega) (by omega)))
  -- a literal's node
  have lit : ∀ (x : Va) (m : Ex) (ty : Int32) (nn : Int64) (pc pc2 : Nat), ex_lit x = m → EX_S (ex_lit x) → k4 x.1 → ty = mty x.1 → (x.1 = 0 ∨ x.1 = 2 → nn = x.2.1) → ¬ x.1 = 1 → ¬ tk_g T L p = 33 → ¬ tk_g T L p = 34 → (∀ o H, MO z am T L sa lo σ w p ops k hb (.ok (m, tk_e T L p, ops)) o H → Q o H) → (∀ (σ2 : Hp) (n : Nat), CM z σ2 am → Go z l mt_M_next (d + 10 * (30 - k) + 31) 0 [.ref (am 0), .retAddr 0, .retAddr 0, .retAddr 0] [] (ov σ2 am 7 w) (fun o σ3 => hp_Le (ov σ2 am 7 w) σ3 → gj_next z l mt_M_primary (d + 10 * (30 - k) + 32) pc2 [.ref (am 0), .ref n, .retAddr 0, .retAddr 0] [] Q o σ3) → Go z l mt_M_primary (d + 10 * (30 - k) + 32) (pc + 3) [.ref (am 0), .retAddr 0, .retAddr 0, .retAddr 0] [.ref n] (ov σ2 am 7 w) Q) → (∀ (n : Nat) (σ2 : Hp) (w2 : Wd), CM z σ2 am → Q (.returned (some (.ref n))) (ov σ2 am 7 w2) → Go z l mt_M_primary (d + 10 * (30 - k) + 32) (pc2 + 3) [.ref (am 0), .ref n, .retAddr 0, .retAddr 0] [] (ov σ2 am 7 w2) Q) →
      Go z l mt_M_literal (d + 10 * (30 - k) + 31) 0 [.ref (am 0), .int ty, .long nn, .retAddr 0, .retAddr 0] [] (ov σ am 7 w) (fun o σ2 => hp_Le (ov σ am 7 w) σ2 → gj_next z l mt_M_primary (d + 10 * (30 - k) + 32) pc [.ref (am 0), .retAddr 0, .retAddr 0, .retAddr 0] [] Q o σ2) := by
    intro x m ty nn pc pc2 em eS ek e1 e2 e3 g33 g34 kq go1 ret
    refine go_wf fun hw => mo_literal (d := d + 10 * (30 - k) + 21) hG.1.1 e1 e2 e3 (fun σ1 c1 F1 N1 A1 V1 A73 tg n1 s1 _ => gj_nextI (go1 σ1 σ.nx c1 ?_))
    exact fin x m σ1 σ.nx (σ.nx + 2) pc2 em eS ek g33 g34 (hG.fr c1 F1 hw) F1 N1 A1 V1 (by omega) (by omega) (fun t ht => by have := Option.some.inj (A73.symm.trans ht); omega) rfl (by omega) (by omega) (by omega) kq (ret σ.nx)
  by_cases h16 : tk_g T L p = 16
  · -- a number
    have es : sp_const T L p ops = .ok (ex_int (tk_n T L p), tk_e T L p, ops) := if_pos h16
    rw [if_neg (by omega), if_neg (by omega), if_neg (by omega), es] at kk
    have hj : w.J 0 48 = tk_n T L p := by
      obtain ⟨-, tk⟩ := hG.2.1
      rcases tk with h | h | h | h | h | h | h | h
      · omega
      · omega
      · exact h.2.2.2
      · omega
      · omega
      · omega
      · omega
      · omega
    have hr := tk_int h16
    have w3 := tk3.mpr h16
    refine cm_M_primary (d := d + 10 * (30 - k) + 23) hG.1.1 (fun q => absurd w3 q) (fun q => absurd w3 q) (fun _ => ?_)
    rw [hj]
    exact lit (0, tk_n T L p, []) _ 20 (tk_n T L p) 15 20 rfl (es_int hr.1 hr.2) (Or.inl rfl) rfl (fun _ => rfl) (show ¬ (0 : Int32) = 1 by decide) (by omega) (by omega) kk (fun σ2 n hc k9 => cm_M_primary_18 (d := d + 10 * (30 - k) + 23) hc k9) (fun n σ2 w2 hc k9 => cm_M_primary_23 (d := d + 10 * (30 - k) + 23) hc k9)
  · have w3 : ¬ w.I 0 44 = 3 := fun q => h16 (tk3.mp q)
    by_cases h17 : tk_g T L p = 17
    · -- a text
      have es : sp_const T L p ops = .ok (ex_text (tk_c T L p), tk_e T L p, ops) := (if_neg h16).trans (if_pos h17)
      rw [if_neg (by omega), if_neg (by omega), if_neg (by omega), es] at kk
      obtain ⟨v, hv, hV⟩ : ∃ v, w.A 0 49 = some v ∧ VM σ am v (1, lN (tk_c T L p).length, tk_c T L p) := by
        obtain ⟨-, tk⟩ := hG.2.1
        rcases tk with h | h | h | h | h | h | h | h
        · omega
        · omega
        · omega
        · exact h.2.2.2
        · omega
        · omega
        · omega
        · omega
      obtain ⟨t1, t2⟩ := tk_txt h17
      have w4 := tk4.mpr h17
      have tlo := hG.2.2.1.2 w4 v hv
      refine go_wf fun hw => cm_M_primary (d := d + 10 * (30 - k) + 23) hG.1.1 (fun _ q => absurd w4 q) (fun _ _ => mo_node (d := d + 10 * (30 - k) + 22) hG.1.1 (fun σ1 c1 F1 N1 n1 s1 z1 _ => gj_nextI (go_wf fun hw1 => cm_M_primary_38 (d := d + 10 * (30 - k) + 23) (b1 := v) c1 N1.1 z1 hv ?_))) (fun q => absurd q w3)
      have G1 := hG.fr c1 F1 hw
      have vlt : v < σ.nx := hw.lt (show (ov σ am 7 w).tag v ≠ 0 by show σ.tag v ≠ 0; rw [hV.1]; decide)
      have vn : v ≠ σ.nx := by omega
      have F2 : Fm am (fun a => a = σ.nx) σ1 (σ1.setA 66 σ.nx (some v)) := ⟨Nat.le_refl _, Nat.le_refl _, fun a _ _ hx9 => SameC.setA hx9⟩
      have c2 : CM z (σ1.setA 66 σ.nx (some v)) am := ⟨c1.1, fun i hi => c1.2 i hi⟩
      have G2 := G1.fx c2 F2 (fun a q => by rw [q]; exact ⟨Or.inl N1.1, z1⟩) hw1
      have F02 : Fm am (fun _ => False) σ (σ1.setA 66 σ.nx (some v)) := F1.trans F2 (fun _ _ q => q) (fun a ha q => by omega)
      have tlt : ∀ t, σ.A 73 v = some t → t < σ.nx := fun t ht => by
        obtain ⟨-, -, -, m9, -, -, t9, ht9, tt, -⟩ := hV
        obtain rfl : t9 = t := Option.some.inj (ht9.symm.trans ht)
        exact hw.lt (show (ov σ am 7 w).tag t9 ≠ 0 by show σ.tag t9 ≠ 0; rw [tt]; decide)
      have mt : ∀ t, σ.A 73 v = some t → mx am t := fun t ht => by
        obtain ⟨-, -, -, m9, -, -, t9, ht9, tt, mt9, -⟩ := hV
        obtain rfl : t9 = t := Option.some.inj (ht9.symm.trans ht)
        exact mt9
      have V2 : VM (σ1.setA 66 σ.nx (some v)) am v (1, lN (tk_c T L p).length, tk_c T L p) := hV.mv (F02.2.2 v vlt (hG.1.1.out hV.1 rfl) (fun q => q)) (fun t ht => F02.2.2 t (tlt t ht) (mt t ht) (fun q => q))
      have N2 : ND (σ1.setA 66 σ.nx (some v)) σ.nx (σ.nx + 1) 0 0 [] 2 := by
        obtain ⟨m1, m2, m3, m4, m5, m6, m7, m8, m9⟩ := N1
        exact ⟨m1, m2, m3, (Hp.sA_nf _ _ _ _ (by decide)).trans m4, m5, m6, m7, m8, m9⟩
      have e73 : (σ1.setA 66 σ.nx (some v)).A 73 v = σ.A 73 v := ((F02.2.2 v vlt (hG.1.1.out hV.1 rfl) (fun q => q)).2.2.1 73).2.2
      exact fin (1, lN (tk_c T L p).length, tk_c T L p) _ (σ1.setA 66 σ.nx (some v)) σ.nx v 48 rfl (es_text t1 t2) (Or.inr (Or.inl rfl)) (by omega) (by omega) G2 F02 N2 (Hp.sA _ _ _ _) V2 tlo.1 (by show v < σ1.nx; omega) (fun t ht => ⟨tlo.2 t (e73.symm.trans ht), by have := tlt t (e73.symm.trans ht); show t < σ1.nx; omega⟩) rfl (by show _ ≤ σ1.nx; omega) (by show σ1.nx ≤ _; omega) (by show σ1.sl ≤ _; omega) kk (fun σ2 w2 hc k9 => cm_M_primary_51 (d := d + 10 * (30 - k) + 23) hc k9)
    · have w4 : ¬ w.I 0 44 = 4 := fun q => h17 (tk4.mp q)
      refine cm_M_primary (d := d + 10 * (30 - k) + 23) hG.1.1 (fun _ _ => ?_) (fun _ q => absurd q w4) (fun q => absurd q w3)
      refine mg_is (d := d + 10 * (30 - k) + 20) (g := 13) hG (ms_c276 hst) (by decide) (by decide) (fun _ => gj_nextI ?_)
      have bol : ∀ (b : Bool), (tk_g T L p = 13 ∧ b = true) ∨ (tk_g T L p = 14 ∧ b = false) → Go z l mt_M_is_1 (d + 10 * (30 - k) + 31) 0 [.ref (am 0), .ref (strZ z "TruthBenchModel" 276), .retAddr 0] [] (ov σ am 7 w) (fun o σ2 => hp_Le (ov σ am 7 w) σ2 → gj_next z l mt_M_primary (d + 10 * (30 - k) + 32) 80 [.ref (am 0), .retAddr 0, .retAddr 0, .retAddr 0] [.int 16, .ref (am 0)] Q o σ2) := fun b hb9 => by
        refine mg_is (d := d + 10 * (30 - k) + 20) (g := 13) hG (ms_c276 hst) (by decide) (by decide) (fun _ => gj_nextI ?_)
        rcases hb9 with ⟨e, eb⟩ | ⟨e, eb⟩
        · have es : sp_const T L p ops = .ok (ex_bool 1, tk_e T L p, ops) := (if_neg h16).trans ((if_neg h17).trans (if_pos e))
          rw [if_neg (by omega), if_neg (by omega), if_neg (by omega), es] at kk
          rw [decide_eq_true e]
          exact cm_M_primary_83 (d := d + 10 * (30 - k) + 23) hG.1.1 (fun q => absurd q one) (fun _ => lit (2, 1, []) _ 16 1 91 96 rfl (es_bool (Or.inr rfl)) (Or.inr (Or.inr (Or.inl rfl))) rfl (fun _ => rfl) (show ¬ (2 : Int32) = 1 by decide) (by omega) (by omega) kk (fun σ2 n hc k9 => cm_M_primary_94 (d := d + 10 * (30 - k) + 23) hc k9) (fun n σ2 w2 hc k9 => cm_M_primary_99 (d := d + 10 * (30 - k) + 23) hc k9))
        · have es : sp_const T L p ops = .ok (ex_bool 0, tk_e T L p, ops) := (if_neg h16).trans ((if_neg h17).trans ((if_neg (by omega)).trans (if_pos e)))
          rw [if_neg (by omega), if_neg (by omega), if_neg (by omega), es] at kk
          rw [decide_eq_false (by omega)]
          exact cm_M_primary_83 (d := d + 10 * (30 - k) + 23) hG.1.1 (fun _ => lit (2, 0, []) _ 16 0 91 96 rfl (es_bool (Or.inl rfl)) (Or.inr (Or.inr (Or.inl rfl))) rfl (fun _ => rfl) (show ¬ (2 : Int32) = 1 by decide) (by omega) (by omega) kk (fun σ2 n hc k9 => cm_M_primary_94 (d := d + 10 * (30 - k) + 23) hc k9) (fun n σ2 w2 hc k9 => cm_M_primary_99 (d := d + 10 * (30 - k) + 23) hc k9)) (fun q => absurd rfl q)
      by_cases h13 : tk_g T L p = 13
      · rw [decide_eq_true h13]
        exact cm_M_primary_60 (d := d + 10 * (30 - k) + 23) hG.1.1 (fun _ => bol true (Or.inl ⟨h13, rfl⟩)) (fun q => absurd q one)
      · rw [decide_eq_false h13]
        refine cm_M_primary_60 (d := d + 10 * (30 - k) + 23) hG.1.1 (fun q => absurd rfl q) (fun _ => ?_)
        refine mg_is (d := d + 10 * (30 - k) + 20) (g := 14) hG (ms_c278 hst) (by decide) (by decide) (fun _ => gj_nextI ?_)
        by_cases h14 : tk_g T L p = 14
        · rw [decide_eq_true h14]
          exact cm_M_primary_70 (d := d + 10 * (30 - k) + 23) hG.1.1 (fun q => absurd q one) (fun _ => bol false (Or.inr ⟨h14, rfl⟩))
        · rw [decide_eq_false h14]
          refine cm_M_primary_70 (d := d + 10 * (30 - k) + 23) hG.1.1 (fun _ => ?_) (fun q => absurd rfl q)
          refine mg_take (d := d + 10 * (30 - k) + 16) (g := 4) hG (ms_c221 hst) (by decide) (by decide) (fun h4 _ => gj_nextI ?_) (fun h4 σ1 w1 G1 F1 S1 B1 _ => gj_nextI ?_)
          · refine cm_M_primary_107 (d := d + 10 * (30 - k) + 23) hG.1.1 (fun _ => ?_) (fun q => absurd rfl q)
            refine mg_is (d := d + 10 * (30 - k) + 20) (g := 8) hG (ms_c280 hst) (by decide) (by decide) (fun _ => gj_nextI ?_)
            by_cases h8 : tk_g T L p = 8
            · -- CASE
              rw [decide_eq_true h8]
              rw [if_neg (by omega), if_pos h8] at kk
              refine cm_M_primary_124 (d := d + 10 * (30 - k) + 23) hG.1.1 (fun q => absurd q one) (fun _ => hC d σ w p ops _ h8 hG (fun o H hMO => ?_))
              cases hr : sp_case T L X k p ops with
              | error e =>
                rw [hr] at hMO kk
                obtain ⟨rfl, hM⟩ := hMO
                exact fun _ => gj_nextT (go_out (fun _ h => nomatch h) (kk _ _ (mo_err rfl hM)))
              | ok y =>
                obtain ⟨m2, p2, o2⟩ := y
                rw [hr] at hMO kk
                obtain ⟨y2, σ4, w4, rfl, rfl, G4, ho4, hp4, F4, W4, B4, R4⟩ := hMO
                exact fun _ => gj_nextI (cm_M_primary_131 (d := d + 10 * (30 - k) + 23) G4.1.1 (kk _ _ (mo_ok rfl G4 ho4 hp4 F4 W4 B4 R4)))
            · rw [decide_eq_false h8]
              refine cm_M_primary_124 (d := d + 10 * (30 - k) + 23) hG.1.1 (fun _ => ?_) (fun q => absurd rfl q)
              refine mg_take (d := d + 10 * (30 - k) + 16) (g := 30) hG (ms_c233 hst) (by decide) (by decide) (fun h30 _ => gj_nextI ?_) (fun h30 σ1 w1 G1 F1 S1 B1 _ => gj_nextI ?_)
              · -- a name, or nothing
                by_cases h15 : tk_g T L p = 15
                · have w2 := tk2.mpr h15
                  rw [if_pos h15] at kk
                  unfold sp_name at kk
                  obtain ⟨a, ha, hS⟩ : ∃ a, w.A 0 47 = some a ∧ StrM σ am a (sc_lows T (tk_s T L p) (tk_e T L p)) := by
                    obtain ⟨-, tk⟩ := hG.2.1
                    rcases tk with h | h | h | h | h | h | h | h
                    · omega
                    · exact h.2.2.2
                    · omega
                    · omega
                    · omega
                    · omega
                    · omega
                    · omega
                  have alo := hG.2.2.1.1 (Or.inr w2) a ha
                  have L1000 : L ≤ 1000 := hG.1.2.2.2.2.2.1
                  have w45 : w.I 0 45 = nI (tk_s T L p) := hG.2.1.1
                  have nl : (sc_lows T (tk_s T L p) (tk_e T L p)).length = tk_e T L p - tk_s T L p := lows_len _ _
                  obtain ⟨l1, l2, l3, l4, -⟩ := id tl
                  have se := l4 (by omega)
                  refine go_wf fun hw => cm_M_primary_138 (d := d + 10 * (30 - k) + 23) (b1 := a) hG.1.1 hG.1.2.1 (fun _ q => absurd w2 q) (fun _ _ => ha) (fun _ _ => ?_) (fun q => absurd rfl q)
                  refine mg_next (d := d + 10 * (30 - k) + 17) hG (by omega) (by omega) (fun σ1 w1 G1 F1 S1 B1 _ => gj_nextV (go_wf fun hw1 => ?_))
                  obtain ⟨b11, b12, b13, b14⟩ := id B1
                  have f1n := F1.1
                  obtain ⟨S1s, S1a, alt, blt⟩ := str_fm (w := w) hS hG.1.1 F1 (fun _ q => q.elim) hw
                  have lo1 := G1.2.2.2.2.2.2.2.2.1
                  refine cm_M_primary_185 (d := d + 10 * (30 - k) + 23) G1.1.1 (mg_take (d := d + 10 * (30 - k) + 16) (g := 30) G1 (ms_c233 G1.1.2.2.2.2.2.2.2.1) (by decide) (by decide) (fun g30 _ => gj_nextI ?_) (fun g30 σ2 w2' G2 F2 S2 B2 _ => gj_nextI ?_))
                  · -- a register
                    rw [if_neg g30] at kk
                    have Sv : Str (ov σ1 am 7 w1) a (sc_lows T (tk_s T L p) (tk_e T L p)) := S1s.ov G1.1.1
                    have bad : ¬ sc_reg T (tk_s T L p) (tk_e T L p) < 8 → Q (.threw (am 1)) (ov σ1 am 7 (((w1.setI 0 45 (w.I 0 45)).setI 1 79 0).setI 0 60 (w.I 0 45))) := fun hr => by
                      rw [if_neg hr] at kk
                      refine kk _ _ (mo_err rfl ⟨σ1, _, tk_e T L p, rfl, G1.1.1, F1, ?_, b14, B1.bc, by omega⟩)
                      obtain ⟨q1, q2, q3, q4⟩ := id S1.ws
                      refine ⟨fun i f hif => ⟨fun r => ?_, (q1 i f hif).2.1, (q1 i f hif).2.2⟩, q2, q3, q4, ?_, rfl⟩
                      · show up22 (up22 (up22 w1.I 0 45 _) 1 79 _) 0 60 _ i f = _
                        rw [up22_eq, if_neg (fun e => by omega), up22_eq, if_neg (fun e => by omega), up22_eq, if_neg (fun e => by omega)]
                        exact (q1 i f hif).1
                      · exact w45
                    refine cm_M_primary_191 (d := d + 10 * (30 - k) + 23) G1.1.1 S1s.1.1 (fun _ => str_len (d := d + 10 * (30 - k) + 22) Sv (fun _ => gj_nextI ?_)) (fun q => absurd rfl q)
                    have e1 : nI (sc_lows T (tk_s T L p) (tk_e T L p)).length = 1 ↔ tk_e T L p = tk_s T L p + 1 := by
                      rw [nl]
                      exact (nI_eq (b := 1) (by omega) (by omega)).trans ⟨fun h => by omega, fun h => by omega⟩
                    refine cm_M_primary_231 (d := d + 10 * (30 - k) + 23) G1.1.1 G1.1.2.1 S1s.1.1 (fun q => bad (fun hr => ?_)) (fun q => ?_)
                    · by_cases he : tk_e T L p = tk_s T L p + 1
                      · exact q (e1.mpr he)
                      · rw [sc_reg, if_neg (fun r => he r.1)] at hr
                        exact absurd hr (by decide)
                    have he := e1.mp q
                    have c0 : (sc_lows T (tk_s T L p) (tk_e T L p)).getD 0 0 = sc_low (T (tk_s T L p)) := lows_0 (by omega)
                    obtain ⟨hsL, hlt⟩ := tk_name h15
                    have hsm : sm ((sc_lows T (tk_s T L p) (tk_e T L p)).getD 0 0) := by rw [c0]; exact low_sm (hG.1.2.2.2.2.2.2.1 _) hlt
                    have chr : ∀ (Q' : Outcome → Hp → Prop), Q' (.returned (some (.int (sc_low (T (tk_s T L p)))))) (ov σ1 am 7 w1) → Go z l mt_JString_charAt (d + 10 * (30 - k) + 31) 0 [.ref a, .int 0] [] (ov σ1 am 7 w1) Q' := fun Q' hq => str_chr (d := d + 10 * (30 - k) + 22) (i := 0) Sv (by omega) hsm (by omega) (by rw [c0]; exact hq)
                    refine chr _ (fun _ => gj_nextI (cm_M_primary_240 (d := d + 10 * (30 - k) + 23) G1.1.1 G1.1.2.1 S1s.1.1 (fun q2 => bad (fun hr => ?_)) (fun q2 => chr _ (fun _ => gj_nextI (cm_M_primary_250 (d := d + 10 * (30 - k) + 23) G1.1.1 G1.1.2.1 S1s.1.1 (fun q3 => chr _ (fun _ => gj_nextI (cm_M_primary_271 (d := d + 10 * (30 - k) + 23) G1.1.1 (mo_node (d := d + 10 * (30 - k) + 22) G1.1.1 (fun σ3 c3 F3 N3 n3 s3 z3 _ => gj_nextI (cm_M_primary_277 (d := d + 10 * (30 - k) + 23) c3 ?_)))))) (fun q3 => bad (fun hr => ?_)))))))
                    · rw [sc_reg, if_neg (fun r => Int32.not_le.mpr q2 r.2.1)] at hr
                      exact absurd hr (by decide)
                    · have er : sc_reg T (tk_s T L p) (tk_e T L p) = (sc_low (T (tk_s T L p)) - 97).toNatClampNeg := if_pos ⟨he, Int32.not_lt.mp q2, q3⟩
                      obtain ⟨j, hj, ej⟩ := hsm
                      rw [c0] at ej
                      obtain ⟨r8, er2⟩ := reg_m j (by omega) (by rw [← ej]; exact Int32.not_lt.mp q2) (by rw [← ej]; exact q3)
                      rw [← ej, ← er] at r8 er2
                      rw [er2] at N3
                      rw [if_pos r8] at kk
                      have R3 : RepN (ex_reg (sc_reg T (tk_s T L p) (tk_e T L p))) lo σ1.nx σ3.nx σ3 am σ1.nx 1 0 := rn_reg r8 N3 lo1 ⟨Nat.le_refl _, by omega⟩ ⟨Nat.le_succ _, by omega⟩
                      exact kk _ _ (mo_ok rfl (G1.fr c3 F3 hw1) (Nat.le_refl _) b13 (F1.tr F3) S1.ws ⟨by omega, by omega⟩ ((R3.wide lo8 f1n (Nat.le_refl _)).mono (by omega) (by omega)))
                    · rw [sc_reg, if_neg (fun r => q3 r.2.2)] at hr
                      exact absurd hr (by decide)
                  · -- a function
                    rw [if_pos g30] at kk
                    obtain ⟨b21, b22, b23, b24⟩ := id B2
                    have f2n := F2.1
                    have lo2 := G2.2.2.2.2.2.2.2.2.1
                    have e30 : ¬ tk_g T L (tk_e T L p) = 33 := by omega
                    obtain ⟨S2s, S2a, alt2, blt2⟩ := str_fm (w := w1) S1s G1.1.1 F2 (fun _ q => q.elim) hw1
                    have W2 : WS w w2' := S1.ws.trans S2.ws
                    have tail : ∀ σ4 : Hp, z.heap.size ≤ σ2.nx → MG z σ4 am w2' T L sa lo (tk_e T L (tk_e T L p)) ops k → ND σ4 σ2.nx (σ2.nx + 1) 3 0 [] 2 → σ4.A 65 σ2.nx = some a → Fm am (fun _ => False) σ2 σ4 → StrM σ4 am a (sc_lows T (tk_s T L p) (tk_e T L p)) → σ4.A 81 a = σ.A 81 a → σ4.nx = σ2.nx + 2 → σ4.sl = σ2.sl + 9 → Go z l mt_M_is_1 (d + 10 * (30 - k) + 31) 0 [.ref (am 0), .ref (strZ z "TruthBenchModel" 238), .retAddr 0] [] (ov σ4 am 7 w2') (fun o σ5 => hp_Le (ov σ4 am 7 w2') σ5 → gj_next z l mt_M_primary (d + 10 * (30 - k) + 32) 208 [.ref (am 0), .ref a, .int (w.I 0 45), .ref σ2.nx] [] Q o σ5) := by
                      intro σ4 z3 G4 N4 A4 F24 S4 A81 n4 s4
                      have mb : mx am (σ2.nx + 1) := fun i hi e => by have := am7 i hi; omega
                      have NB4 : NB z σ4 am lo (hx + (ops - ops)) σ2.nx (σ2.nx + 1) 0 0 3 0 [] 2 σ2.nx 0 := ⟨N4, by decide, z3, by omega, mb, by omega, by omega, ⟨Nat.le_refl _, by omega, by omega, by omega⟩, show σ2.nx ≤ σ4.nx by omega⟩
                      have F04 : Fm am (fun _ => False) σ σ4 := (F1.tr F2).tr F24
                      have fin2 : ∀ (σ5 : Hp) (w5 : Wd) (p5 o5 b5 cap5 : Nat) (rs : List (Ex × Nat)) (kv : Nat), MG z σ5 am w5 T L sa lo p5 o5 k → ops ≤ o5 → tk_e T L (tk_e T L p) ≤ p5 → NB z σ5 am lo (hx + (o5 - ops)) σ2.nx b5 0 0 3 0 rs cap5 σ2.nx kv → rs.length ≤ 8 → σ5.A 65 σ2.nx = some a → StrM σ5 am a (sc_lows T (tk_s T L p) (tk_e T L p)) → σ5.A 81 a = σ.A 81 a → Fm am (fun _ => False) σ σ5 → WS w w5 → σ5.nx + 12 * tk_E T L p + 8 * p ≤ σ.nx + 12 * tk_E T L p5 + 8 * p5 → σ5.sl + 110 * tk_E T L p + 250 * p ≤ σ.sl + 110 * tk_E T L p5 + 250 * p5 → kv + 2 ≤ 2 * (p5 + 1 - p) → (∀ o H, MO z am T L sa lo σ w p ops k hb (sp_take T L 31 (ex_fun (sc_ofFun T (tk_s T L p) (tk_e T L p)) (rs.map Prod.fst)) p5 o5) o H → Q o H) → Go z l mt_M_need (d + 10 * (30 - k) + 31) 0 [.ref (am 0), .ref (strZ z "TruthBenchModel" 238)] [] (ov σ5 am 7 w5) (fun o σ6 => hp_Le (ov σ5 am 7 w5) σ6 → gj_next z l mt_M_primary (d + 10 * (30 - k) + 32) 222 [.ref (am 0), .ref a, .int (w.I 0 45), .ref σ2.nx] [] Q o σ6) := by
                        intro σ5 w5 p5 o5 b5 cap5 rs kv G5 ho hp5 N5 hrs A5 S5 A815 F05 W5 B5 C5 hkv kq
                        refine go_wf fun hw5 => mg_need (d := d + 10 * (30 - k) + 15) (g := 31) G5 (ms_c238 G5.1.2.2.2.2.2.2.2.1) (by decide) (by decide) (fun e9 H hM => ?_) (fun e9 σ6 w6 G6 F6 S6 B6 _ => gj_nextV (cm_M_primary_225 (d := d + 10 * (30 - k) + 23) G6.1.1 ?_))
                        · exact fun _ => gj_nextT (go_out (fun _ h => nomatch h) (kq _ _ (mo_err (if_neg e9) (MB.pre F05 W5 ⟨B5, C5⟩ hM))))
                        · obtain ⟨b61, b62, b63, b64⟩ := id B6
                          have f6n := F6.1
                          have f05 := F05.1
                          have N6 := N5.fm G5.1.1 F6 am7
                          have A6 : σ6.A 65 σ2.nx = some a := (((F6.2.2 σ2.nx N5.2.2.2.2.2.1 (G5.1.1.out N5.1.1 rfl) (fun q => q)).2.2.1 65).2.2).trans A5
                          obtain ⟨S6s, S6a, alt6, blt6⟩ := str_fm (w := w5) S5 G5.1.1 F6 (fun _ q => q.elim) hw5
                          have R6 := hF z σ6 rs _ _ a cap5 σ2.nx _ kv _ N6 am7 lo2 hrs A6 S6s (by omega) alo.1 (by omega) (fun r hr => by
                            have hr' := (S6a.trans A815).symm.trans hr
                            have := blt r hr'
                            exact ⟨alo.2 r hr', by omega⟩)
                          exact kq _ _ (mo_ok (if_pos e9) G6 ho (by omega) (F05.tr F6) (W5.trans S6.ws) ⟨by omega, by omega⟩ ((R6.wide lo8 (by omega) (Nat.le_refl _)).mono (by omega) (by omega)))
                      refine go_wf fun hw4 => mg_is (d := d + 10 * (30 - k) + 20) (g := 31) G4 (ms_c238 G4.1.2.2.2.2.2.2.2.1) (by decide) (by decide) (fun _ => gj_nextI ?_)
                      by_cases g31 : tk_g T L (tk_e T L (tk_e T L p)) = 31
                      · have es : sp_args T L X k (tk_e T L (tk_e T L p)) ops = .ok ([], tk_e T L (tk_e T L p), ops) := if_pos g31
                        rw [es] at kk
                        rw [decide_eq_true g31]
                        exact cm_M_primary_211 (d := d + 10 * (30 - k) + 23) G4.1.1 (fun _ => fin2 σ4 w2' _ ops (σ2.nx + 1) 2 [] 0 G4 (Nat.le_refl _) (Nat.le_refl _) NB4 (show 0 ≤ 8 by decide) A4 S4 A81 F04 W2 (by omega) (by omega) (by omega) kk) (fun q => absurd q one)
                      · have es : sp_args T L X k (tk_e T L (tk_e T L p)) ops = sp_list T L X k 8 (tk_e T L (tk_e T L p)) ops := if_neg g31
                        rw [es] at kk
                        rw [decide_eq_false g31]
                        refine cm_M_primary_211 (d := d + 10 * (30 - k) + 23) G4.1.1 (fun q => absurd rfl q) (fun _ => cm_M_list (d := d + 10 * (30 - k) + 22) G4.1.1 (rm_list_loop (d := d) hX 8 0 σ4 w2' _ ops (σ2.nx + 1) 2 σ2.nx 0 ops [] rfl (show 0 ≤ 1 + 0 by decide) G4 NB4 (Nat.le_refl _) (fun e H hs hM => ?_) (fun ms p' o' σ' w' b' cap' rs' kv' hs hfst hrl G' ho' hp' F' NO' W' B' hkv N' => ?_)))
                        · rw [hs] at kk
                          exact fun _ => gj_nextT (go_out (fun _ h => nomatch h) (kk _ _ (mo_err rfl (MBx.out (MBx.pre F04 W2 (by omega) (by omega) hM (fun _ _ q => q) (fun q hq r => by omega))))))
                        · rw [hs] at kk
                          obtain ⟨b51, b52⟩ := id B'
                          have hfs : rs'.map Prod.fst = ms := hfst
                          have hr8 : rs'.length ≤ 8 := by have h9 : rs'.length ≤ 0 + 8 := hrl; omega
                          obtain ⟨S5s, S5a, alt5, blt5⟩ := str_fm (w := w2') S4 G4.1.1 F' (fun q e => (NB4.tags q e).1) hw4
                          exact fun _ => gj_nextV (cm_M_primary_219 (d := d + 10 * (30 - k) + 23) G'.1.1 (fin2 σ' w' p' o' b' cap' rs' kv' G' ho' (by omega) N' hr8 (NO'.1.trans A4) S5s (S5a.trans A81) (F04.trans F' (fun _ _ q => q) (fun q hq r => by omega)) (W2.trans W') (by omega) (by omega) (by omega) (by rw [hfs]; exact kk)))
                    refine go_wf fun hw2 => cm_M_primary_191 (d := d + 10 * (30 - k) + 23) G2.1.1 S2s.1.1 (fun q => absurd q one) (fun _ => mo_node (d := d + 10 * (30 - k) + 22) G2.1.1 (fun σ3 c3 F3 N3 n3 s3 z3 _ => gj_nextI (go_wf fun hw3 => cm_M_primary_199 (d := d + 10 * (30 - k) + 23) c3 N3.1 z3 ?_)))
                    have G3 := G2.fr c3 F3 hw2
                    have F4 : Fm am (fun q => q = σ2.nx) σ3 (σ3.setA 65 σ2.nx (some a)) := ⟨Nat.le_refl _, Nat.le_refl _, fun q _ _ hx9 => SameC.setA hx9⟩
                    have c4 : CM z (σ3.setA 65 σ2.nx (some a)) am := ⟨c3.1, fun i hi => c3.2 i hi⟩
                    have F24 : Fm am (fun _ => False) σ2 (σ3.setA 65 σ2.nx (some a)) := F3.trans F4 (fun _ _ q => q) (fun q hq e => by omega)
                    obtain ⟨S4s, S4a, -, -⟩ := str_fm (w := w2') S2s G2.1.1 F24 (fun _ q => q.elim) hw2
                    refine tail _ z3 (G3.fx c4 F4 (fun q e => by rw [e]; exact ⟨Or.inl N3.1, z3⟩) hw3) ?_ (Hp.sA _ _ _ _) F24 S4s (S4a.trans (S2a.trans S1a)) n3 s3
                    obtain ⟨m1, m2, m3, m4, m5, m6, m7, m8, m9⟩ := N3
                    exact ⟨m1, m2, m3, (Hp.sA_nf _ _ _ _ (by decide)).trans m4, m5, m6, m7, m8, m9⟩
                · have w2 : ¬ w.I 0 44 = 2 := fun q => h15 (tk2.mp q)
                  have es : sp_const T L p ops = .error (tk_s T L p) := (if_neg h16).trans ((if_neg h17).trans ((if_neg h13).trans ((if_neg h14).trans (if_neg h4))))
                  rw [if_neg h15, if_neg h8, if_neg h30, es] at kk
                  exact cm_M_primary_138 (d := d + 10 * (30 - k) + 23) (b1 := 0) hG.1.1 hG.1.2.1 (fun _ _ => kk _ _ (mo_err rfl hG.brk)) (fun _ q => absurd q w2) (fun _ q => absurd q w2) (fun q => absurd rfl q)
              · -- in brackets
                rw [if_neg (by omega), if_neg (by omega), if_pos h30] at kk
                unfold sp_paren at kk
                obtain ⟨b11, b12, b13, b14⟩ := id B1
                have f1n := F1.1
                refine cm_M_primary_138 (d := d + 10 * (30 - k) + 23) (b1 := 0) G1.1.1 G1.1.2.1 (fun q => absurd q one) (fun q => absurd q one) (fun q => absurd q one) (fun _ => go_eq (show d + 1 + 10 * (30 - k) + 30 + 0 = d + 10 * (30 - k) + 31 by omega) (hX (d + 1) σ1 w1 _ _ _ G1 (fun o H hMO => ?_)))
                cases hr : X (k + 1) (tk_e T L p) ops with
                | error e =>
                  rw [hr] at hMO kk
                  obtain ⟨rfl, hM⟩ := hMO
                  exact fun _ => gj_nextT (go_out (fun _ h => nomatch h) (kk _ _ (mo_err rfl (MB.pre F1 S1.ws B1.bc hM))))
                | ok y =>
                  obtain ⟨m2, p2, o2⟩ := y
                  rw [hr] at hMO kk
                  obtain ⟨y2, σ4, w4, rfl, rfl, G4, ho4, hp4, F4, W4, B4, R4⟩ := hMO
                  intro _
                  obtain ⟨b41, b42⟩ := id B4
                  have f4n := F4.1
                  refine gj_nextI (cm_M_primary_145 (d := d + 10 * (30 - k) + 23) G4.1.1 (mg_need (d := d + 10 * (30 - k) + 15) (g := 31) G4 (ms_c238 G4.1.2.2.2.2.2.2.2.1) (by decide) (by decide) (fun e9 H hM => ?_) (fun e9 σ5 w5 G5 F5 S5 B5 _ => gj_nextV (cm_M_primary_152 (d := d + 10 * (30 - k) + 23) G5.1.1 ?_))))
                  · exact fun _ => gj_nextT (go_out (fun _ h => nomatch h) (kk _ _ (mo_err (if_neg e9) (MB.pre (F1.tr F4) (S1.ws.trans W4) ⟨by omega, by omega⟩ hM))))
                  · obtain ⟨b51, b52, b53, b54⟩ := id B5
                    have f5n := F5.1
                    exact kk _ _ (mo_ok (if_pos e9) G5 ho4 (by omega) ((F1.tr F4).tr F5) ((S1.ws.trans W4).trans S5.ws) ⟨by omega, by omega⟩ (((R4.fm F5 (Nat.le_refl _) am7).wide lo8 f1n f5n).mono (by omega) (by omega)))
          · -- NULL
            have es : sp_const T L p ops = .ok (ex_null, tk_e T L p, ops) := (if_neg h16).trans ((if_neg h17).trans ((if_neg h13).trans ((if_neg h14).trans (if_pos h4))))
            rw [if_neg (by omega), if_neg (by omega), if_neg (by omega), es] at kk
            obtain ⟨b11, b12, b13, b14⟩ := id B1
            have f1n := F1.1
            refine go_wf fun hw1 => cm_M_primary_107 (d := d + 10 * (30 - k) + 23) G1.1.1 (fun q => absurd q one) (fun _ => mo_literal (d := d + 10 * (30 - k) + 21) (x := v_null) G1.1.1 rfl (fun e => absurd e (by decide)) (by decide) (fun σ2 c2 F2 N2 A2 V2 A73 tg n2 s2 _ => gj_nextI (cm_M_primary_116 (d := d + 10 * (30 - k) + 23) c2 ?_)))
            have lo1 := G1.2.2.2.2.2.2.2.2.1
            have R2 : RepN (ex_lit v_null) lo σ1.nx σ2.nx σ2 am σ1.nx 1 0 := rn_lit N2 A2 V2 es_null (by decide) (Or.inl ⟨by omega, by omega, fun q => by omega⟩) (fun t ht => Or.inl (by have := Option.some.inj (A73.symm.trans ht); exact ⟨by omega, by omega, fun q => by omega⟩)) lo1 ⟨Nat.le_refl _, by omega⟩ ⟨Nat.le_succ _, by omega⟩
            exact kk _ _ (mo_ok rfl (G1.fr c2 F2 hw1) (Nat.le_refl _) b13 (F1.tr F2) S1.ws ⟨by omega, by omega⟩ ((R2.wide lo8 f1n (Nat.le_refl _)).mono (by omega) (by omega)))
end MPrim
