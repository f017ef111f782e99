/-! ===== the reference's rules: lists of parts ===== -/
/-- what reading from p to p' costs, with c cells and s slots more -/
def Bq (T : Nat → Int32) (L : Nat) (σ σ' : Hp) (p p' c s : Nat) : Prop := σ'.nx + 12 * tk_E T L p + 8 * p ≤ σ.nx + 12 * tk_E T L p' + 8 * p' + c ∧ σ'.sl + 110 * tk_E T L p + 250 * p ≤ σ.sl + 110 * tk_E T L p' + 250 * p' + s
/-- a broken text, while the node of ex is being made -/
def MBx (z : State) (am : Nat → Nat) (T : Nat → Int32) (L : Nat) (ex : Nat → Prop) (σ : Hp) (w : Wd) (p e c s : Nat) (H : Hp) : Prop := ∃ σ' w' p', H = ov σ' am 7 w' ∧ CM z σ' am ∧ Fm am ex σ σ' ∧ WT w w' e ∧ p' ≤ L ∧ Bq T L σ σ' p p' c s ∧ e ≤ L
theorem MB.x {z : State} {am : Nat → Nat} {T : Nat → Int32} {L : Nat} {ex : Nat → Prop} {σ : Hp} {w : Wd} {p e c s : Nat} {H : Hp} (h : MB z am T L σ w p e H) : MBx z am T L ex σ w p e c s H := by
  obtain ⟨σ', w', p', e1, e2, e3, e4, e5, e6, e7⟩ := h
  exact ⟨σ', w', p', e1, e2, e3.trans (Fm.rfl' am ex σ') (fun _ _ q => q.elim) (fun _ _ q => q), e4, e5, ⟨by have := e6.1; omega, by have := e6.2; omega⟩, e7⟩
theorem MBx.pre {z : State} {am : Nat → Nat} {T : Nat → Int32} {L : Nat} {ex ex1 ex2 : Nat → Prop} {σ σ1 : Hp} {w w1 : Wd} {p p1 e c s c2 s2 : Nat} {H : Hp} (F : Fm am ex1 σ σ1) (S : WS w w1) (B1 : σ1.nx + 12 * tk_E T L p + 8 * p + c2 ≤ σ.nx + 12 * tk_E T L p1 + 8 * p1 + c) (B2 : σ1.sl + 110 * tk_E T L p + 250 * p + s2 ≤ σ.sl + 110 * tk_E T L p1 + 250 * p1 + s) (h : MBx z am T L ex2 σ1 w1 p1 e c2 s2 H) (e1 : ∀ a, a < σ.nx → ex1 a → ex a) (e2 : ∀ a, a < σ.nx → ex2 a → ex a) : MBx z am T L ex σ w p e c s H := by
  obtain ⟨σ', w', p', q1, q2, q3, q4, q5, q6, q7⟩ := h
  exact ⟨σ', w', p', q1, q2, F.trans q3 e1 e2, WT.pre S q4, q5, ⟨by have := q6.1; omega, by have := q6.2; omega⟩, q7⟩
theorem MBx.out {z : State} {am : Nat → Nat} {T : Nat → Int32} {L : Nat} {σ : Hp} {w : Wd} {p e : Nat} {H : Hp} (h : MBx z am T L (fun _ => False) σ w p e 0 0 H) : MB z am T L σ w p e H := by
  obtain ⟨σ', w', p', q1, q2, q3, q4, q5, q6, q7⟩ := h
  exact ⟨σ', w', p', q1, q2, q3, q4, q5, ⟨by have := q6.1; omega, by have := q6.2; omega⟩, q7⟩
/-- parts made from u to v, none of them over the node n and its array b -/
def PR (lo : Nat) (σ : Hp) (am : Nat → Nat) (h n b hl hh : Nat) : List (Ex × Nat) → Nat → Nat → Nat → Prop
  | [], u, v, _ => u ≤ v
  | (m, x) :: r, u, v, kv => ∃ a c k1 k2, u ≤ a ∧ RepN m lo a c σ am x h k1 ∧ (n < a ∨ c ≤ n) ∧ (b < a ∨ c ≤ b) ∧ PR lo σ am h n b hl hh r c v k2 ∧ k1 + k2 ≤ kv ∧ (c ≤ hl ∨ hh ≤ a)
section MPR
variable {lo : Nat} {σ σ' : Hp} {am : Nat → Nat} {h n b hl hh : Nat}
theorem PR.le : ∀ {rs : List (Ex × Nat)} {u v kv : Nat}, PR lo σ am h n b hl hh rs u v kv → u ≤ v
  | [], _, _, _, q => q
  | (_, _) :: _, _, _, _, ⟨a, c, _, _, h1, hR, _, _, hP, _, _⟩ => by
    have := PR.le hP
    have := hR.2.1
    have := hR.2.2.1
    omega
theorem PR.snoc {m : Ex} {x a c k1 : Nat} : ∀ {rs : List (Ex × Nat)} {u v kv : Nat}, PR lo σ am h n b hl hh rs u v kv → v ≤ a → RepN m lo a c σ am x h k1 → (n < a ∨ c ≤ n) → (b < a ∨ c ≤ b) → (c ≤ hl ∨ hh ≤ a) → PR lo σ am h n b hl hh (rs ++ [(m, x)]) u c (kv + k1)
  | [], u, v, kv, q, hv, hR, h1, h2, h3 => ⟨a, c, k1, 0, Nat.le_trans q hv, hR, h1, h2, Nat.le_refl _, by omega, h3⟩
  | (_, _) :: _, u, v, kv, ⟨a', c', k1', k2', q1, qR, q2, q3, qP, q4, q5⟩, hv, hR, h1, h2, h3 => ⟨a', c', k1', k2' + k1, q1, qR, q2, q3, PR.snoc qP hv hR h1 h2 h3, by omega, q5⟩
theorem PR.mono {h' : Nat} (hx : h ≤ h') : ∀ {rs : List (Ex × Nat)} {u v kv kv' : Nat}, PR lo σ am h n b hl hh rs u v kv → kv ≤ kv' → PR lo σ am h' n b hl hh rs u v kv'
  | [], _, _, _, _, q, _ => q
  | (_, _) :: _, _, _, _, _, ⟨a', c', k1', k2', q1, qR, q2, q3, qP, q4, q5⟩, hk => ⟨a', c', k1', k2', q1, qR.mono hx (Nat.le_refl _), q2, q3, PR.mono hx qP (Nat.le_refl _), by omega, q5⟩
theorem PR.mv (f : Fm am (fun a => a = n ∨ a = b) σ σ') (h2 : ∀ i, i < 7 → am i < lo) (tn : σ.tag n = 9) (tb : σ.tag b = 26) : ∀ {rs : List (Ex × Nat)} {u v kv : Nat}, PR lo σ am h n b hl hh rs u v kv → v ≤ σ.nx → PR lo σ' am h n b hl hh rs u v kv
  | [], _, _, _, q, _ => q
  | (_, _) :: _, _, _, _, ⟨a', c', k1', k2', q1, qR, q2, q3, qP, q4, q5⟩, hv => by
    have hc := PR.le qP
    refine ⟨a', c', k1', k2', q1, qR.mv (f.ag (by omega) h2 qR.1 (fun x q r => ?_)), q2, q3, PR.mv f h2 tn tb qP hv, q4, q5⟩
    rcases q with rfl | rfl
    · rcases r with r | r
      · have := r.1; have := r.2.1; omega
      · rw [tn] at r; exact absurd r.2.2 (by decide)
    · rcases r with r | r
      · have := r.1; have := r.2.1; omega
      · rw [tb] at r; exact absurd r.2.2 (by decide)
theorem PR.fm (f : Fm am (fun _ => False) σ σ') (h2 : ∀ i, i < 7 → am i < lo) : ∀ {rs : List (Ex × Nat)} {u v kv : Nat}, PR lo σ am h n b hl hh rs u v kv → v ≤ σ.nx → PR lo σ' am h n b hl hh rs u v kv
  | [], _, _, _, q, _ => q
  | (_, _) :: _, _, _, _, ⟨a', c', k1', k2', q1, qR, q2, q3, qP, q4, q5⟩, hv => ⟨a', c', k1', k2', q1, qR.fm f (by have := PR.le qP; omega) h2, q2, q3, PR.fm f h2 qP hv, q4, q5⟩
theorem PR.nb {b' : Nat} : ∀ {rs : List (Ex × Nat)} {u v kv : Nat}, PR lo σ am h n b hl hh rs u v kv → (b' = b ∨ v ≤ b') → PR lo σ am h n b' hl hh rs u v kv
  | [], _, _, _, q, _ => q
  | (_, _) :: _, _, _, _, ⟨a', c', k1', k2', q1, qR, q2, q3, qP, q4, q5⟩, hb => ⟨a', c', k1', k2', q1, qR, q2, hb.elim (fun e => e ▸ q3) (fun e => Or.inr (by have := PR.le qP; omega)), PR.nb qP hb, q4, q5⟩
theorem PR.tag : ∀ {rs : List (Ex × Nat)} {u v kv : Nat}, PR lo σ am h n b hl hh rs u v kv → ∀ i, i < (rs.map Prod.snd).length → σ.tag ((rs.map Prod.snd).getD i 0) = 9
  | (_, _) :: _, _, _, _, ⟨a', c', k1', k2', q1, qR, q2, q3, qP, q4, q5⟩, 0, _ => qR.2.2.2.1
  | (_, _) :: _, _, _, _, ⟨a', c', k1', k2', q1, qR, q2, q3, qP, q4, q5⟩, i + 1, hi => PR.tag qP i (Nat.lt_of_succ_lt_succ hi)
theorem PR.end' {v' : Nat} : ∀ {rs : List (Ex × Nat)} {u v kv : Nat}, PR lo σ am h n b hl hh rs u v kv → v ≤ v' → PR lo σ am h n b hl hh rs u v' kv
  | [], _, _, _, q, hv => Nat.le_trans q hv
  | (_, _) :: _, _, _, _, ⟨a', c', k1', k2', q1, qR, q2, q3, qP, q4, q5⟩, hv => ⟨a', c', k1', k2', q1, qR, q2, q3, PR.end' qP hv, q4, q5⟩
end MPR
/-- a node that is being made: its parts so far -/
def NB (z : State) (σ : Hp) (am : Nat → Nat) (lo h n b hl hh : Nat) (op kd : Int32) (rs : List (Ex × Nat)) (cap u kv : Nat) : Prop := ND σ n b op kd (rs.map Prod.snd) cap ∧ (1 ≤ cap ∧ cap ≤ 100) ∧ z.heap.size ≤ n ∧ z.heap.size ≤ b ∧ mx am b ∧ n < σ.nx ∧ b < σ.nx ∧ (u ≤ n ∧ u ≤ b ∧ hh ≤ n ∧ hh ≤ b) ∧ PR lo σ am h n b hl hh rs u σ.nx kv
section MList
variable {z : State} {l : Launch} {d : Nat} {σ : Hp} {am : Nat → Nat} {w : Wd} {Q : Outcome → Hp → Prop} {T : Nat → Int32} {L sa lo p ops k h n b hl hh cap u kv : Nat} {op kd : Int32} {rs : List (Ex × Nat)}
theorem NB.tags (hN : NB z σ am lo h n b hl hh op kd rs cap u kv) : ∀ a, a = n ∨ a = b → (σ.tag a = 9 ∨ σ.tag a = 26) ∧ z.heap.size ≤ a := fun a q => by
  rcases q with rfl | rfl
  · exact ⟨Or.inl hN.1.1, hN.2.2.1⟩
  · exact ⟨Or.inr hN.1.2.2.2.2.1, hN.2.2.2.1⟩
/-- what comes later leaves a node that is being made -/
theorem NB.fm {σ' : Hp} (hN : NB z σ am lo h n b hl hh op kd rs cap u kv) (hc : CM z σ am) (f : Fm am (fun _ => False) σ σ') (am7 : ∀ i, i < 7 → am i < lo) : NB z σ' am lo h n b hl hh op kd rs cap u kv := by
  obtain ⟨h1, h2, h3, h4, h5, h6, h7, h9, h8⟩ := hN
  have fn := f.1
  exact ⟨h1.mv (f.2.2 n h6 (hc.out h1.1 rfl) (fun q => q)) (f.2.2 b h7 h5 (fun q => q)), h2, h3, h4, h5, by omega, by omega, h9, (h8.fm f am7 (Nat.le_refl _)).end' fn⟩
/-- one part more -/
theorem mo_part {m : Ex} {x a c k1 : Nat} (hN : NB z σ am lo h n b hl hh op kd rs cap u kv) (hc : CM z σ am) (am7 : ∀ i, i < 7 → am i < lo) (hR : RepN m lo a c σ am x h k1) (hPR : PR lo σ am h n b hl hh rs u a kv) (hcx : c ≤ σ.nx) (e1 : n < a ∨ c ≤ n) (e2 : b < a ∨ c ≤ b) (e3 : c ≤ hl ∨ hh ≤ a) (hlen : rs.length ≤ 40)
    (kk : ∀ σ' b' cap', CM z σ' am → Fm am (fun q => q = n ∨ q = b) σ σ' → NB z σ' am lo h n b' hl hh op kd (rs ++ [(m, x)]) cap' u (kv + k1) → NO σ σ' n → (b' = b ∨ σ.nx ≤ b') → σ'.nx ≤ σ.nx + 1 → σ'.sl ≤ σ.sl + 80 → (rs.length < cap → σ'.nx = σ.nx ∧ σ'.sl = σ.sl ∧ b' = b) → Q (.returned none) (ov σ' am 7 w)) :
    Go z l mt_N_add (d + 9) 0 [.ref n, .ref x, .retAddr 0, .retAddr 0] [] (ov σ am 7 w) Q := by
  refine go_wf fun hw => ?_
  obtain ⟨h1, h2, h3, h4, h5, h6, h7, h9, h8⟩ := id hN
  have ule := PR.le h8
  refine mo_add (d := d) hc h1 h5 hR.2.2.2.1 h3 h4 (by rw [List.length_map]; exact hlen) h2 (PR.tag h8) (fun σ' b' cap' c' f' N' o' bd' mb' lt' n' s' e' l' => ?_)
  have fn := f'.1
  have hS : PR lo σ am h n b hl hh (rs ++ [(m, x)]) u c (kv + k1) := hPR.snoc (Nat.le_refl _) hR e1 e2 e3
  have hS2 : PR lo σ' am h n b' hl hh (rs ++ [(m, x)]) u σ'.nx (kv + k1) := ((hS.mv f' am7 h1.1 h1.2.2.2.2.1 hcx).nb (bd'.imp id (fun q => by omega))).end' (by omega)
  have mapE : (rs ++ [(m, x)]).map Prod.snd = rs.map Prod.snd ++ [x] := by rw [List.map_append]; rfl
  refine kk σ' b' cap' c' f' ⟨by rw [mapE]; exact N', l', h3, ?_, mb', by omega, lt', ⟨h9.1, by omega, h9.2.2.1, by omega⟩, hS2⟩ o' bd' n' s' (fun q => ?_)
  · rcases bd' with e | e
    · rw [e]; exact h4
    · have := hc.zs hw
      omega
  · have := e' (by rw [List.length_map]; exact q)
    exact ⟨this.1, this.2.1, this.2.2.1⟩
end MList
section MList2
variable {z : State} {l : Launch} {am : Nat → Nat} {T : Nat → Int32} {L sa lo k hb n hl hh : Nat} {op kd : Int32} {X : PX}
/-- a list of expressions, from its place i on -/
theorem rm_list_loop (hX : RM z l am T L sa lo mt_M_expression [.ref (am 0), .retAddr 0] k 0 hb (X (k + 1))) {d : Nat} {Q : Outcome → Hp → Prop} :
    ∀ (f i : Nat) (σ : Hp) (w : Wd) (p ops b cap u kv ho : Nat) (rs : List (Ex × Nat)), i + f = 8 → rs.length ≤ 1 + i → MG z σ am w T L sa lo p ops k → NB z σ am lo (hb + (ops - ho)) n b hl hh op kd rs cap u kv → ho ≤ ops →
      (∀ e H, sp_list T L X k f p ops = .error e → MBx z am T L (fun a => a = n ∨ a = b) σ w p e 1 80 H → Q (.threw (am 1)) H) →
      (∀ ms p' o' σ' w' b' cap' rs' kv', sp_list T L X k f p ops = .ok (ms, p', o') → rs'.map Prod.fst = rs.map Prod.fst ++ ms → rs'.length ≤ rs.length + f → MG z σ' am w' T L sa lo p' o' k → ops ≤ o' → p + 1 ≤ p' → Fm am (fun a => a = n ∨ a = b) σ σ' → NO σ σ' n → WS w w' → Bq T L σ σ' p p' 1 80 → kv' + ms.length ≤ kv + 2 * (p' - p) + 1 → NB z σ' am lo (hb + (o' - ho)) n b' hl hh op kd rs' cap' u kv' → Q (.returned none) (ov σ' am 7 w')) →
      Go z l mt_M_list (d + 10 * (30 - k) + 31) 2 [.ref (am 0), .ref n, .int (nI i)] [] (ov σ am 7 w) Q := by
  intro f
  induction f with
  | zero =>
    intro i σ w p ops b cap u kv ho rs hi hrl hG hN hho kE kO
    have i8 : (8 : Int32) ≤ nI i := show nI 8 ≤ nI i from nI_le (by omega) (by omega)
    exact cm_M_list_2 (d := d + 10 * (30 - k) + 22) hG.1.1 hG.1.2.1 (fun _ => kE _ _ rfl hG.brk.x) (fun q => absurd i8 q)
  | succ f ih =>
    intro i σ w p ops b cap u kv ho rs hi hrl hG hN hho kE kO
    have i8 : ¬ (8 : Int32) ≤ nI i := fun q => absurd (show nI 8 ≤ nI i from q) (nI_ge (by omega) (by omega))
    have am7 := hG.2.2.2.2.2.2.2.2.2
    refine cm_M_list_2 (d := d + 10 * (30 - k) + 22) hG.1.1 hG.1.2.1 (fun q => absurd q i8) (fun _ => hX d σ w p ops _ hG (fun o H hMO => ?_))
    cases hr : X (k + 1) p ops with
    | error e =>
      rw [hr] at hMO
      obtain ⟨rfl, hB⟩ := hMO
      exact fun _ => gj_nextT (go_out (fun _ h => nomatch h) (kE e _ (by rw [sp_list, hr]) hB.x))
    | ok y =>
      obtain ⟨m, p1, o1⟩ := y
      rw [hr] at hMO
      obtain ⟨x, σ1, w1, rfl, rfl, G1, ho1, hp1, F1, W1, B1, R1⟩ := hMO
      intro _
      have f1n := F1.1
      have N1 := hN.fm hG.1.1 F1 am7
      obtain ⟨-, -, -, -, -, nlt, blt, -, hPR⟩ := id hN
      have hPR1 : PR lo σ1 am (hb + (o1 - ho)) n b hl hh rs u σ.nx kv := (hPR.fm F1 am7 (Nat.le_refl _)).mono (by omega) (Nat.le_refl _)
      have N1' : NB z σ1 am lo (hb + (o1 - ho)) n b hl hh op kd rs cap u kv := by
        obtain ⟨q1, q2, q3, q4, q5, q6, q7, q9, q8⟩ := N1
        exact ⟨q1, q2, q3, q4, q5, q6, q7, q9, q8.mono (by omega) (Nat.le_refl _)⟩
      refine gj_nextI (go_wf fun hw1 => cm_M_list_22 (d := d + 10 * (30 - k) + 22) G1.1.1 N1.1.1 (mo_part (d := d + 10 * (30 - k) + 21) N1' G1.1.1 am7 (R1.mono (by omega) (Nat.le_refl _)) hPR1 (Nat.le_refl _) (Or.inl nlt) (Or.inl blt) (Or.inr (by have := hN.2.2.2.2.2.2.2.1.2.2.1; omega)) (by omega) (fun σ2 b2 cap2 c2 F2 N2 o2 bd2 n2 s2 e2 _ => gj_nextV (cm_M_list_25 (d := d + 10 * (30 - k) + 22) c2 ?_))))
      have G2 := G1.fx c2 F2 N1'.tags hw1
      rw [nI_1]
      obtain ⟨b11, b12⟩ := B1
      have F02 : Fm am (fun a => a = n ∨ a = b) σ σ2 := F1.trans F2 (fun _ _ q => q.elim) (fun _ _ q => q)
      have NO02 : NO σ σ2 n := by
        have s9 := F1.2.2 n nlt (hG.1.1.out hN.1.1 rfl) (fun q => q)
        exact ⟨o2.1.trans (s9.2.2.1 65).2.2, o2.2.trans (s9.2.2.1 66).2.2⟩
      refine mg_take (d := d + 10 * (30 - k) + 15) (g := 32) G2 (ms_c247 G2.1.2.2.2.2.2.2.2.1) (by decide) (by decide) (fun e0 _ => gj_nextI (cm_M_list_34 (d := d + 10 * (30 - k) + 22) c2 (fun q => absurd rfl q) (fun _ => ?_))) (fun e0 σ3 w3 G3 F3 S3 B3 _ => gj_nextI (cm_M_list_34 (d := d + 10 * (30 - k) + 22) G3.1.1 (fun _ => ?_) (fun q => absurd (show (1 : Int32) = 0 from q) (by decide))))
      · have es : sp_list T L X k (f + 1) p ops = .ok ([m], p1, o1) := by
          rw [sp_list, hr]
          exact if_neg e0
        refine kO [m] p1 o1 σ2 w1 b2 cap2 _ _ es (by rw [List.map_append]; rfl) (by rw [List.length_append]; show _ + 1 ≤ _; omega) G2 ho1 hp1 F02 NO02 W1 ⟨by omega, by omega⟩ (Nat.le_refl _) N2
      · obtain ⟨b31, b32, b33, b34⟩ := B3
        have N3 := N2.fm c2 F3 am7
        have es : sp_list T L X k (f + 1) p ops = match sp_list T L X k f (tk_e T L p1) o1 with
            | .error e => .error e
            | .ok (ms, p2, o2) => .ok (m :: ms, p2, o2) := by
          rw [sp_list, hr]
          exact if_pos e0
        have F03 : Fm am (fun a => a = n ∨ a = b) σ σ3 := F02.trans F3 (fun _ _ q => q) (fun _ _ q => q.elim)
        have exb : ∀ a, a < σ.nx → a = n ∨ a = b2 → a = n ∨ a = b := fun a ha q => by
          rcases q with q | q
          · exact Or.inl q
          · rcases bd2 with e | e
            · exact Or.inr (by omega)
            · omega
        refine ih (i + 1) σ3 w3 (tk_e T L p1) o1 b2 cap2 u _ ho (rs ++ [(m, x)]) (by omega) (by rw [List.length_append]; show _ + 1 ≤ _; omega) G3 N3 (by omega) (fun e H hs hM => ?_) (fun ms p' o' σ' w' b' cap' rs' kv' hs hfst hrl' G' ho' hp' F' NO' W' B' hkv' N' => ?_)
        · exact kE e H (by rw [es, hs]) (MBx.pre F03 (W1.trans S3.ws) (by omega) (by omega) hM (fun _ _ q => q) exb)
        · obtain ⟨b41, b42⟩ := B'
          have s3 := F3.2.2 n (by have := F2.1; omega) (c2.out N2.1.1 rfl) (fun q => q)
          refine kO (m :: ms) p' o' σ' w' b' cap' rs' kv' (by rw [es, hs]) (by rw [hfst, List.map_append, List.append_assoc]; rfl) (by rw [List.length_append] at hrl'; have : [(m, x)].length = 1 := rfl; omega) G' (by omega) (by omega) (F03.trans F' (fun _ _ q => q) exb) ⟨(NO'.1.trans (s3.2.2.1 65).2.2).trans NO02.1, (NO'.2.trans (s3.2.2.1 66).2.2).trans NO02.2⟩ ((W1.trans S3.ws).trans W') ⟨by omega, by omega⟩ (by rw [List.length_cons]; omega) N'
end MList2
