/-! ===== the reference's rules: what comes behind a sum ===== -/
def InR (am : Nat → Nat) (lo : Nat) : Prop := ∀ (z : State) (σ : Hp) (m : Ex) (rs : List (Ex × Nat)) (n b x cap u h kv hl hh : Nat), NB z σ am lo h n b hl hh 5 0 ((m, x) :: rs) cap u kv → (∀ i, i < 7 → am i < lo) → lo ≤ u → rs.length ≤ 8 → RepH (ex_in m (rs.map Prod.fst)) lo u σ.nx hl hh σ am n (h + 1) (kv + rs.length + 1)
def BtwR (am : Nat → Nat) (lo : Nat) : Prop := ∀ (z : State) (σ : Hp) (m1 m2 m3 : Ex) (n b x1 x2 x3 cap u h kv hl hh : Nat), NB z σ am lo h n b hl hh 7 0 [(m1, x1), (m2, x2), (m3, x3)] cap u kv → (∀ i, i < 7 → am i < lo) → lo ≤ u → RepH (ex_between m1 m2 m3) lo u σ.nx hl hh σ am n (h + 1) (kv + 2)
theorem RM.mono {z : State} {l : Launch} {am : Nat → Nat} {T : Nat → Int32} {L sa lo : Nat} {M : Mt} {A : List Value} {k D hb hb' : Nat} {F : Nat → Nat → Pr} (h : RM z l am T L sa lo M A k D hb F) (hh : hb ≤ hb') : RM z l am T L sa lo M A k D hb' F := fun d σ w p ops Q G kk => h d σ w p ops Q G (fun o H hM => kk o H (by
  cases hr : F p ops with
  | error e =>
    rw [hr] at hM
    exact hM
  | ok x =>
    obtain ⟨m, p', o'⟩ := x
    rw [hr] at hM
    obtain ⟨n, σ', w', e1, e2, e3, e4, e5, e6, e7, e8, e9⟩ := hM
    exact ⟨n, σ', w', e1, e2, e3, e4, e5, e6, e7, e8, e9.mono (by omega) (Nat.le_refl _)⟩))
section MWithin
variable {z : State} {l : Launch} {am : Nat → Nat} {T : Nat → Int32} {L sa lo k hb : Nat} {X : PX}
theorem rm_within (hF : RM z l am T L sa lo mt_M_sum [.ref (am 0), .retAddr 0, .retAddr 0] k 5 hb (sp_sum T L X k)) (hX : RM z l am T L sa lo mt_M_expression [.ref (am 0), .retAddr 0] k 0 hb (X (k + 1))) (hL : PairR am lo 6 (fun _ => 0) ex_2 (fun o => o = 26)) (hI : InR am lo) (hB : BtwR am lo)
    {d : Nat} {σ0 : Hp} {w0 : Wd} {p0 ops0 : Nat} {Q : Outcome → Hp → Prop} {σ : Hp} {w : Wd} {p ops x va hl hh ka : Nat} {ma : Ex} {nd : Bool} (hG : MG z σ am w T L sa lo p ops k) (ho0 : ops0 ≤ ops) (hp0 : p0 + 1 ≤ p) (hF0 : Fm am (fun _ => False) σ0 σ) (hW0 : WS w0 w) (hB0 : Bc T L σ0 σ p0 p) (hR : RepN ma lo σ0.nx va σ am x (hb + (ops - ops0)) ka) (hva : va ≤ σ.nx) (hho : va ≤ hl ∨ hh = 0) (hhh : hh ≤ σ.nx)
    (kE : ∀ e H, sp_within T L X k ma nd p ops = .error e → MB z am T L σ0 w0 p0 e H → Q (.threw (am 1)) H)
    (kO : ∀ m p' o' n σ' w', sp_within T L X k ma nd p ops = .ok (m, p', o') → MG z σ' am w' T L sa lo p' o' k → ops0 ≤ o' → p0 + 1 ≤ p' → p ≤ p' → Fm am (fun _ => False) σ0 σ' → Fm am (fun _ => False) σ σ' → WS w0 w' → Bc T L σ0 σ' p0 p' → RepH m lo σ0.nx σ'.nx hl hh σ' am n (hb + 1 + (o' - ops0)) (ka + 2 * (p' - p)) → Q (.returned (some (.ref n))) (ov σ' am 7 w')) :
    Go z l mt_M_within (d + 10 * (30 - k) + 36) 0 [.ref (am 0), .ref x, .int (b2i nd), .retAddr 0] [] (ov σ am 7 w) Q := by
  have hst : MSt z σ := hG.1.2.2.2.2.2.2.2.1
  have am7 := hG.2.2.2.2.2.2.2.2.2
  have f0n := hF0.1
  obtain ⟨b01, b02⟩ := id hB0
  have one : ¬ (1 : Int32) = 0 := by decide
  refine cm_M_within (d := d + 10 * (30 - k) + 27) hG.1.1 (mg_take (d := d + 10 * (30 - k) + 20) (g := 5) hG (ms_c231 hst) (by decide) (by decide) (fun e5 _ => gj_nextI ?_) (fun e5 σ1 w1 G1 F1 S1 B1 _ => gj_nextI ?_))
  · refine cm_M_within_6 (d := d + 10 * (30 - k) + 27) hG.1.1 (fun _ => ?_) (fun q => absurd rfl q)
    refine mg_take (d := d + 10 * (30 - k) + 20) (g := 6) hG (ms_c240 hst) (by decide) (by decide) (fun e6 _ => gj_nextI ?_) (fun e6 σ1 w1 G1 F1 S1 B1 _ => gj_nextI ?_)
    · -- BETWEEN, or nothing
      have es7 : tk_g T L p = 7 → sp_within T L X k ma nd p ops = sp_betw T L X k ma (tk_e T L p) ops := fun e7 => by
        unfold sp_within
        rw [if_neg e5, if_neg e6, if_pos e7]
      have btw : Go z l mt_M_need (d + 10 * (30 - k) + 35) 0 [.ref (am 0), .ref (strZ z "TruthBenchModel" 242)] [] (ov σ am 7 w) (fun o σ1 => hp_Le (ov σ am 7 w) σ1 → gj_next z l mt_M_within (d + 10 * (30 - k) + 36) 76 [.ref (am 0), .ref x, .int (b2i nd), .retAddr 0] [] Q o σ1) ∨ (¬ tk_g T L p = 7 ∧ nd = false) := by
        by_cases e7 : tk_g T L p = 7 ∨ nd = true
        · left
          refine mg_need (d := d + 10 * (30 - k) + 19) (g := 7) hG (ms_c242 hst) (by decide) (by decide) (fun e9 H hM => ?_) (fun e9 σ1 w1 G1 F1 S1 B1 _ => gj_nextV (cm_M_within_79 (d := d + 10 * (30 - k) + 27) G1.1.1 ?_))
          · have nd1 : nd = true := e7.resolve_left e9
            refine fun _ => gj_nextT (go_out (fun _ h => nomatch h) (kE (tk_s T L p) _ ?_ (MB.pre hF0 hW0 hB0 hM)))
            unfold sp_within
            rw [if_neg e5, if_neg e6, if_neg e9, if_pos nd1]
          · obtain ⟨b11, b12, b13, b14⟩ := id B1
            have f1n := F1.1
            refine go_wf fun hw1 => mo_node (d := d + 10 * (30 - k) + 26) G1.1.1 (fun σ2 c2 F2 N2 n2 s2 z2 _ => gj_nextI ?_)
            have G2 := G1.fr c2 F2 hw1
            have Ra : RepN ma lo σ0.nx va σ2 am x (hb + (ops - ops0)) ka := (hR.fm F1 hva am7).fm F2 (by omega) am7
            have lo9 := G1.2.2.2.2.2.2.2.2.1
            have lo8 := hG.2.2.2.2.2.2.2.2.1
            have mb : mx am (σ1.nx + 1) := fun i hi e => by have := am7 i hi; omega
            have NB2 : NB z σ2 am lo (hb + (ops - ops0)) σ1.nx (σ1.nx + 1) hl hh 7 0 [] 2 σ0.nx 0 := ⟨N2, by decide, z2, by omega, mb, by omega, by omega, ⟨by omega, by omega, by omega, by omega⟩, show σ0.nx ≤ σ2.nx by omega⟩
            refine go_wf fun hw2 => cm_M_within_85 (d := d + 10 * (30 - k) + 27) c2 N2.1 (mo_part (d := d + 10 * (30 - k) + 26) NB2 c2 am7 Ra (Nat.le_refl _) (by omega) (Or.inr (by omega)) (Or.inr (by omega)) (hho.imp id (fun e => by omega)) (by decide) (fun σ3 b3 cap3 c3 F3 NB3 o3 bd3 n3 s3 e3 _ => gj_nextV ?_))
            obtain ⟨e3n, e3s, e3b⟩ := e3 (by decide)
            subst e3b
            have G3 := G2.fx c3 F3 NB2.tags hw2
            have F03 : Fm am (fun _ => False) σ0 σ3 := (((hF0.tr F1).tr F2).trans F3 (fun _ _ q => q) (fun a ha q => by omega))
            have W1 : WS w0 w1 := hW0.trans S1.ws
            refine cm_M_within_91 (d := d + 10 * (30 - k) + 27) c3 (hF d σ3 w1 _ _ _ G3 (fun o H hMO => ?_))
            have es := es7 e9
            unfold sp_betw at es
            cases hr : sp_sum T L X k (tk_e T L p) ops with
            | error e =>
              rw [hr] at hMO es
              obtain ⟨rfl, hM⟩ := hMO
              exact fun _ => gj_nextT (go_out (fun _ h => nomatch h) (kE _ _ es ((MB.pre F03 W1 ⟨by omega, by omega⟩ hM))))
            | ok y =>
              obtain ⟨m2, p2, o2⟩ := y
              rw [hr] at hMO es
              obtain ⟨y2, σ4, w4, rfl, rfl, G4, ho4, hp4, F4, W4, B4, R4⟩ := hMO
              intro _
              obtain ⟨b41, b42⟩ := id B4
              have f4n := F4.1
              have NB4 := (NB3.fm c3 F4 am7)
              have PR4 := NB3.2.2.2.2.2.2.2.2.fm F4 am7 (Nat.le_refl _)
              have nl : σ1.nx < σ3.nx := by omega
              have bl : σ1.nx + 1 < σ3.nx := by omega
              have NB4' : NB z σ4 am lo (hb + (o2 - ops0)) σ1.nx (σ1.nx + 1) hl hh 7 0 [(ma, x)] cap3 σ0.nx (0 + ka) := by
                obtain ⟨q1, q2, q3, q4, q5, q6, q7, q9, q8⟩ := NB4
                exact ⟨q1, q2, q3, q4, q5, q6, q7, q9, q8.mono (by omega) (Nat.le_refl _)⟩
              refine gj_nextI (go_wf fun hw4 => cm_M_within_96 (d := d + 10 * (30 - k) + 27) G4.1.1 NB4.1.1 (mo_part (d := d + 10 * (30 - k) + 26) NB4' G4.1.1 am7 (R4.mono (h' := hb + (o2 - ops0)) (by omega) (Nat.le_refl _)) (PR4.mono (by omega) (Nat.le_refl _)) (Nat.le_refl _) (Or.inl nl) (Or.inl bl) (Or.inr (by omega)) (show 1 ≤ 40 by decide) (fun σ5 b5 cap5 c5 F5 NB5 o5 bd5 n5 s5 e5' _ => gj_nextV ?_)))
              have G5 := G4.fx c5 F5 NB4'.tags hw4
              have F05 : Fm am (fun _ => False) σ0 σ5 := (F03.tr F4).trans F5 (fun _ _ q => q) (fun a ha q => by omega)
              refine cm_M_within_99 (d := d + 10 * (30 - k) + 27) c5 (mg_need (d := d + 10 * (30 - k) + 19) (g := 1) G5 (ms_c206 G5.1.2.2.2.2.2.2.2.1) (by decide) (by decide) (fun e9 H hM => ?_) (fun e10 σ6 w6 G6 F6 S6 B6 _ => gj_nextV ?_))
              · have es2 : sp_within T L X k ma nd p ops = .error (tk_s T L p2) := es.trans (if_neg e9)
                exact fun _ => gj_nextT (go_out (fun _ h => nomatch h) (kE _ _ es2 ((MB.pre F05 (W1.trans W4) ⟨by omega, by omega⟩ hM))))
              · obtain ⟨b61, b62, b63, b64⟩ := id B6
                have es2 : sp_within T L X k ma nd p ops = match sp_sum T L X k (tk_e T L p2) o2 with
                    | .error e => .error e
                    | .ok (c, p2, o2) => .ok (ex_between ma m2 c, p2, o2) := es.trans (if_pos e10)
                have NB6 := NB5.fm c5 F6 am7
                have f6n := F6.1
                have F06 : Fm am (fun _ => False) σ0 σ6 := F05.tr F6
                have W6 : WS w0 w6 := (W1.trans W4).trans S6.ws
                refine cm_M_within_105 (d := d + 10 * (30 - k) + 27) G6.1.1 (hF d σ6 w6 _ _ _ G6 (fun o H hMO => ?_))
                cases hr2 : sp_sum T L X k (tk_e T L p2) o2 with
                | error e =>
                  rw [hr2] at hMO es2
                  obtain ⟨rfl, hM⟩ := hMO
                  exact fun _ => gj_nextT (go_out (fun _ h => nomatch h) (kE _ _ es2 ((MB.pre F06 W6 ⟨by omega, by omega⟩ hM))))
                | ok y =>
                  obtain ⟨m3, p3, o3'⟩ := y
                  rw [hr2] at hMO es2
                  obtain ⟨y3, σ7, w7, rfl, rfl, G7, ho7, hp7, F7, W7, B7, R7⟩ := hMO
                  intro _
                  obtain ⟨b71, b72⟩ := id B7
                  have f7n := F7.1
                  have NB7 := NB6.fm G6.1.1 F7 am7
                  have PR7 := NB6.2.2.2.2.2.2.2.2.fm F7 am7 (Nat.le_refl _)
                  have nl7 : σ1.nx < σ6.nx := NB6.2.2.2.2.2.1
                  have bl7 : b5 < σ6.nx := NB6.2.2.2.2.2.2.1
                  have NB7' : NB z σ7 am lo (hb + (o3' - ops0)) σ1.nx b5 hl hh 7 0 [(ma, x), (m2, y2)] cap5 σ0.nx (0 + ka + 2 * (p2 - tk_e T L p)) := by
                    obtain ⟨q1, q2, q3, q4, q5, q6, q7, q9, q8⟩ := NB7
                    exact ⟨q1, q2, q3, q4, q5, q6, q7, q9, q8.mono (by omega) (Nat.le_refl _)⟩
                  refine gj_nextI (go_wf fun hw7 => cm_M_within_110 (d := d + 10 * (30 - k) + 27) G7.1.1 NB7.1.1 (mo_part (d := d + 10 * (30 - k) + 26) NB7' G7.1.1 am7 (R7.mono (h' := hb + (o3' - ops0)) (by omega) (Nat.le_refl _)) (PR7.mono (by omega) (Nat.le_refl _)) (Nat.le_refl _) (Or.inl nl7) (Or.inl bl7) (Or.inr (by omega)) (show 2 ≤ 40 by decide) (fun σ8 b8 cap8 c8 F8 NB8 o8 bd8 n8 s8 e8' _ => gj_nextV (cm_M_within_113 (d := d + 10 * (30 - k) + 27) c8 ?_))))
                  have G8 := G7.fx c8 F8 NB7'.tags hw7
                  have b5lo : σ0.nx ≤ b5 := NB5.2.2.2.2.2.2.2.1.2.1
                  have F08 : Fm am (fun _ => False) σ0 σ8 := (F06.tr F7).trans F8 (fun _ _ q => q) (fun a ha q => by omega)
                  have R8 := hB z σ8 ma m2 m3 _ _ _ _ _ _ _ _ _ _ _ NB8 am7 hR.1
                  exact kO _ _ _ _ _ _ es2 G8 (by omega) (by omega) (by omega) F08 ((((((F1.tr F2).trans F3 (fun _ _ q => q) (fun a ha q => by omega)).tr F4).trans F5 (fun _ _ q => q) (fun a ha q => by omega)).tr F6).tr F7 |>.trans F8 (fun _ _ q => q) (fun a ha q => by omega)) (W6.trans W7) ⟨by omega, by omega⟩ (R8.mono (by omega) (by omega))
        · exact Or.inr ⟨fun e => e7 (Or.inl e), by cases nd with
            | false => rfl
            | true => exact absurd (Or.inr rfl) e7⟩
      have isb : nd = false → Go z l mt_M_is_1 (d + 10 * (30 - k) + 35) 0 [.ref (am 0), .ref (strZ z "TruthBenchModel" 242), .retAddr 0] [] (ov σ am 7 w) (fun o σ1 => hp_Le (ov σ am 7 w) σ1 → gj_next z l mt_M_within (d + 10 * (30 - k) + 36) 67 [.ref (am 0), .ref x, .int (b2i nd), .retAddr 0] [] Q o σ1) := fun nd0 => by
        refine mg_is (d := d + 10 * (30 - k) + 24) (g := 7) hG (ms_c242 hst) (by decide) (by decide) (fun _ => gj_nextI ?_)
        by_cases e7 : tk_g T L p = 7
        · rw [decide_eq_true e7]
          exact cm_M_within_70 (d := d + 10 * (30 - k) + 27) hG.1.1 (fun q => absurd q one) (fun _ => btw.resolve_right (fun q => q.1 e7))
        · rw [decide_eq_false e7]
          refine cm_M_within_70 (d := d + 10 * (30 - k) + 27) hG.1.1 (fun _ => kO ma p ops _ _ _ ?_ hG ho0 hp0 (Nat.le_refl _) hF0 (Fm.rfl' _ _ _) hW0 hB0 ((hR.mono (by omega) (Nat.le_add_right _ _)).wid hR.1 (Nat.le_refl _) ⟨hva, fun r q => ⟨q.1, by have := q.2.1; omega, fun q9 => by have := q.2.1; rcases hho with e | e <;> omega⟩⟩)) (fun q => absurd rfl q)
          unfold sp_within
          rw [if_neg e5, if_neg e6, if_neg e7, if_neg (by rw [nd0]; decide)]
      refine cm_M_within_45 (d := d + 10 * (30 - k) + 27) hG.1.1 (fun _ q => btw.resolve_right (fun r => q (b2i_0.mpr r.2))) (fun _ q => isb (b2i_0.mp q)) (fun q => absurd rfl q)
    · -- LIKE
      obtain ⟨b11, b12, b13, b14⟩ := id B1
      have f1n := F1.1
      have es : sp_within T L X k ma nd p ops = sp_two T L X k 26 ma (tk_e T L p) ops := by
        unfold sp_within
        rw [if_neg e5, if_pos e6]
      unfold sp_two at es
      have W1 : WS w0 w1 := hW0.trans S1.ws
      refine cm_M_within_45 (d := d + 10 * (30 - k) + 27) G1.1.1 (fun q => absurd q one) (fun q => absurd q one) (fun _ => hF d σ1 w1 _ _ _ G1 (fun o H hMO => ?_))
      cases hr : sp_sum T L X k (tk_e T L p) ops with
      | error e =>
        rw [hr] at hMO es
        obtain ⟨rfl, hM⟩ := hMO
        exact fun _ => gj_nextT (go_out (fun _ h => nomatch h) (kE _ _ es ((MB.pre (hF0.tr F1) W1 ⟨by omega, by omega⟩ hM))))
      | ok y =>
        obtain ⟨m2, p2, o2⟩ := y
        rw [hr] at hMO es
        obtain ⟨y2, σ4, w4, rfl, rfl, G4, ho4, hp4, F4, W4, B4, R4⟩ := hMO
        intro _
        obtain ⟨b41, b42⟩ := id B4
        have f4n := F4.1
        have R1 : RepN ma lo σ0.nx va σ4 am x (hb + (ops - ops0)) ka := hR.fm (F1.tr F4) hva am7
        refine gj_nextI (go_wf fun hw4 => cm_M_within_56 (d := d + 10 * (30 - k) + 27) G4.1.1 (mo_pair (d := d + 10 * (30 - k) + 25) G4.1.1 R1.2.2.2.1 R4.2.2.2.1 (fun σ5 c5 F5 N5 n5 s5 _ => gj_nextI (cm_M_within_59 (d := d + 10 * (30 - k) + 27) c5 ?_))))
        have r1 := R1.fm F5 (by omega) am7
        have r2 := R4.fm F5 (Nat.le_refl _) am7
        have R5 := hL 26 σ5 ma m2 σ4.nx x y2 σ0.nx va σ1.nx σ4.nx σ5.nx (hb + (o2 - ops0)) _ _ hl hh rfl N5 (by omega) (Nat.le_refl _) (by omega) (fun r q1 q2 => by rcases hho with e | e <;> omega) (r1.mono (by omega) (Nat.le_refl _)) (r2.mono (by omega) (Nat.le_refl _))
        exact kO _ _ _ _ _ _ es (G4.fr c5 F5 hw4) (by omega) (by omega) (by omega) (((hF0.tr F1).tr F4).tr F5) ((F1.tr F4).tr F5) (W1.trans W4) ⟨by omega, by omega⟩ (R5.mono (by omega) (by omega))
  · -- IN
    obtain ⟨b11, b12, b13, b14⟩ := id B1
    have f1n := F1.1
    have lo8 := hG.2.2.2.2.2.2.2.2.1
    have es : sp_within T L X k ma nd p ops = sp_inl T L X k ma (tk_e T L p) ops := by
      unfold sp_within
      rw [if_pos e5]
    unfold sp_inl at es
    refine go_wf fun hw1 => cm_M_within_6 (d := d + 10 * (30 - k) + 27) G1.1.1 (fun q => absurd q one) (fun _ => mo_node (d := d + 10 * (30 - k) + 26) G1.1.1 (fun σ2 c2 F2 N2 n2 s2 z2 _ => gj_nextI ?_))
    have G2 := G1.fr c2 F2 hw1
    have Ra : RepN ma lo σ0.nx va σ2 am x (hb + (ops - ops0)) ka := (hR.fm F1 hva am7).fm F2 (by omega) am7
    have mb : mx am (σ1.nx + 1) := fun i hi e => by have := am7 i hi; omega
    have NB2 : NB z σ2 am lo (hb + (ops - ops0)) σ1.nx (σ1.nx + 1) hl hh 5 0 [] 2 σ0.nx 0 := ⟨N2, by decide, z2, by omega, mb, by omega, by omega, ⟨by omega, by omega, by omega, by omega⟩, show σ0.nx ≤ σ2.nx by omega⟩
    refine go_wf fun hw2 => cm_M_within_14 (d := d + 10 * (30 - k) + 27) c2 N2.1 (mo_part (d := d + 10 * (30 - k) + 26) NB2 c2 am7 Ra (Nat.le_refl _) (by omega) (Or.inr (by omega)) (Or.inr (by omega)) (hho.imp id (fun e => by omega)) (by decide) (fun σ3 b3 cap3 c3 F3 NB3 o3 bd3 n3 s3 e3 _ => gj_nextV ?_))
    obtain ⟨e3n, e3s, e3b⟩ := e3 (by decide)
    subst e3b
    have G3 := G2.fx c3 F3 NB2.tags hw2
    have F03 : Fm am (fun _ => False) σ0 σ3 := (((hF0.tr F1).tr F2).trans F3 (fun _ _ q => q) (fun a ha q => by omega))
    have W1 : WS w0 w1 := hW0.trans S1.ws
    refine cm_M_within_20 (d := d + 10 * (30 - k) + 27) c3 (mg_need (d := d + 10 * (30 - k) + 19) (g := 30) G3 (ms_c233 G3.1.2.2.2.2.2.2.2.1) (by decide) (by decide) (fun e9 H hM => ?_) (fun e9 σ4 w4 G4 F4 S4 B4 _ => gj_nextV ?_))
    · exact fun _ => gj_nextT (go_out (fun _ h => nomatch h) (kE _ _ (es.trans (if_neg e9)) ((MB.pre F03 W1 ⟨by omega, by omega⟩ hM))))
    · obtain ⟨b41, b42, b43, b44⟩ := id B4
      have f4n := F4.1
      have NB4 := NB3.fm c3 F4 am7
      have F04 := F03.tr F4
      have W4 : WS w0 w4 := W1.trans S4.ws
      have es2 : sp_within T L X k ma nd p ops = match sp_list T L X k 8 (tk_e T L (tk_e T L p)) ops with
          | .error e => .error e
          | .ok (ms, p2, o2) => sp_take T L 31 (ex_in ma ms) p2 o2 := es.trans (if_pos e9)
      have de : d + 4 + 10 * (30 - k) + 31 = d + 10 * (30 - k) + 35 := by omega
      refine cm_M_within_26 (d := d + 10 * (30 - k) + 27) G4.1.1 (cm_M_list (d := d + 10 * (30 - k) + 26) G4.1.1 (go_eq de (rm_list_loop (d := d + 4) hX 8 0 σ4 w4 _ ops (σ1.nx + 1) cap3 σ0.nx _ ops0 [(ma, x)] rfl (show 1 ≤ 1 + 0 by decide) G4 NB4 ho0 (fun e H hs hM => ?_) (fun ms p' o' σ' w' b' cap' rs' kv' hs hfst hrl G' ho' hp' F' NO' W' B' hkv N' => ?_))))
      · rw [hs] at es2
        refine fun _ => gj_nextT (go_out (fun _ h => nomatch h) (kE _ _ es2 ((MBx.out (MBx.pre F04 W4 (by omega) (by omega) hM (fun _ _ q => q) (fun a ha q => by omega))))))
      · rw [hs] at es2
        obtain ⟨b51, b52⟩ := id B'
        refine fun _ => gj_nextV (cm_M_within_31 (d := d + 10 * (30 - k) + 27) G'.1.1 (mg_need (d := d + 10 * (30 - k) + 19) (g := 31) G' (ms_c238 G'.1.2.2.2.2.2.2.2.1) (by decide) (by decide) (fun e9 H hM => ?_) (fun e9 σ6 w6 G6 F6 S6 B6 _ => gj_nextV (cm_M_within_37 (d := d + 10 * (30 - k) + 27) G6.1.1 ?_))))
        · have F05 : Fm am (fun _ => False) σ0 σ' := F04.trans F' (fun _ _ q => q) (fun a ha q => by omega)
          exact fun _ => gj_nextT (go_out (fun _ h => nomatch h) (kE _ _ (es2.trans (if_neg e9)) ((MB.pre F05 (W4.trans W') ⟨by omega, by omega⟩ hM))))
        · have F05 : Fm am (fun _ => False) σ0 σ' := F04.trans F' (fun _ _ q => q) (fun a ha q => by omega)
          obtain ⟨b61, b62, b63, b64⟩ := id B6
          have N6 := N'.fm G'.1.1 F6 am7
          match rs', hfst, hrl, N6 with
          | (m9, x9) :: rs9, hfst, hrl, N6 =>
            have em : m9 = ma ∧ rs9.map Prod.fst = ms := by
              have hf : m9 :: rs9.map Prod.fst = ma :: ms := hfst
              exact ⟨(List.cons.inj hf).1, (List.cons.inj hf).2⟩
            have hl9 : rs9.length ≤ 8 := by
              have hl' : rs9.length + 1 ≤ 1 + 8 := hrl
              omega
            have lm : rs9.length = ms.length := by rw [← em.2, List.length_map]
            have R6 := hI z σ6 m9 rs9 _ _ _ _ _ _ _ _ _ N6 am7 hR.1 hl9
            rw [em.1, em.2] at R6
            exact kO _ _ _ _ _ _ (es2.trans (if_pos e9)) G6 (by omega) (by omega) (by omega) (F05.tr F6) (((((F1.tr F2).trans F3 (fun _ _ q => q) (fun a ha q => by omega)).tr F4).trans F' (fun _ _ q => q) (fun a ha q => by omega)).tr F6) ((W4.trans W').trans S6.ws) ⟨by omega, by omega⟩ (R6.mono (by omega) (by omega))
end MWithin
