/-! ===== chains of parts: IN, COALESCE, CASE ===== -/
def ckl : List Ex → (Nat → Int32) → Int32 × List Int32
  | [], _ => (0, [])
  | m :: ms, kn => if ¬ (m.1 kn).1 = 0 then ((m.1 kn).1, []) else if ¬ (ckl ms kn).1 = 0 then ((ckl ms kn).1, []) else (0, (m.1 kn).2 :: (ckl ms kn).2)
def ckn (o : Nat) (ms : List Ex) (kn : Nat → Int32) : Int32 × Int32 := if ¬ (ckl ms kn).1 = 0 then ((ckl ms kn).1, 0) else sp_kc o (ckl ms kn).2
theorem ckl_ok {ms : List Ex} {kn : Nat → Int32} (h : (ckl ms kn).1 = 0) : (∀ m ∈ ms, (m.1 kn).1 = 0) ∧ (ckl ms kn).2 = ms.map (fun m => (m.1 kn).2) := by
  induction ms with
  | nil => exact ⟨fun m hm => absurd hm List.not_mem_nil, rfl⟩
  | cons m ms ih =>
    by_cases h1 : (m.1 kn).1 = 0
    · by_cases h2 : (ckl ms kn).1 = 0
      · obtain ⟨a, b⟩ := ih h2
        have e : ckl (m :: ms) kn = (0, (m.1 kn).2 :: (ckl ms kn).2) := (if_neg (fun q => q h1)).trans (if_neg (fun q => q h2))
        refine ⟨fun x hx => ?_, by rw [e, b]; rfl⟩
        rcases List.mem_cons.mp hx with rfl | hx
        · exact h1
        · exact a x hx
      · have e : ckl (m :: ms) kn = ((ckl ms kn).1, []) := (if_neg (fun q => q h1)).trans (if_pos h2)
        rw [e] at h
        exact absurd h h2
    · have e : ckl (m :: ms) kn = ((m.1 kn).1, []) := if_pos h1
      rw [e] at h
      exact absurd h h1
theorem ckn_ok {o : Nat} {ms : List Ex} {kn : Nat → Int32} (h : (ckn o ms kn).1 = 0) : (∀ m ∈ ms, (m.1 kn).1 = 0) ∧ ckn o ms kn = sp_kc o (ms.map (fun m => (m.1 kn).2)) := by
  by_cases h1 : (ckl ms kn).1 = 0
  · obtain ⟨a, b⟩ := ckl_ok h1
    exact ⟨a, (if_neg (fun q => q h1)).trans (by rw [b])⟩
  · have e : ckn o ms kn = ((ckl ms kn).1, 0) := if_pos h1
    rw [e] at h
    exact absurd h h1
/-- where one kind is due for all parts -/
theorem kl_same {o n : Nat} (hd : ∀ i, sp_due o i n = 4) : ∀ (ks : List Int32) (i : Nat) (s e : Int32), (sp_kl o n ks i s e).1 = 0 → e = 0 ∧ (¬ s = 3 → (sp_kl o n ks i s e).2 = s ∧ ∀ k ∈ ks, sp_fits k s) := by
  intro ks
  induction ks with
  | nil => intro i s e h; exact ⟨h, fun _ => ⟨rfl, fun k hk => absurd hk List.not_mem_nil⟩⟩
  | cons k ks ih =>
    intro i s e h
    have e1 : sp_kl o n (k :: ks) i s e = sp_kl o n ks (i + 1) (if s = 3 then k else s) (if sp_fits k s then e else 1) := if_pos (hd i)
    rw [e1] at h ⊢
    obtain ⟨a, b⟩ := ih _ _ _ h
    by_cases hf : sp_fits k s
    · rw [if_pos hf] at a
      refine ⟨a, fun hs => ?_⟩
      rw [if_neg hs] at b ⊢
      obtain ⟨b1, b2⟩ := b hs
      refine ⟨b1, fun x hx => ?_⟩
      rcases List.mem_cons.mp hx with rfl | hx
      · exact hf
      · exact b2 x hx
    · rw [if_neg hf] at a
      exact absurd a (by decide)
def wdl : List Ex → Nat
  | [] => 1
  | m :: ms => max (max m.2.2 1) (wdl ms)
def ev_in (x : Va) : Va → List Ex → (Nat → Va) → Int32 × Va
  | acc, [], _ => (0, acc)
  | acc, m :: ms, R => if ¬ (m.2.1 R).1 = 0 then m.2.1 R else if x.1 = 3 ∨ (m.2.1 R).2.1 = 3 then ev_in x (3, 0, []) ms R else if sp_cmp x (m.2.1 R).2 = 0 then (0, (2, 1, [])) else ev_in x acc ms R
def ev_co : List Ex → (Nat → Va) → Int32 × Va
  | [], _ => (0, (3, 0, []))
  | m :: ms, R => if ¬ (m.2.1 R).1 = 0 then m.2.1 R else if (m.2.1 R).2.1 = 3 then ev_co ms R else m.2.1 R
/-- parts one after the other, each with the step o behind it, which aims at tg -/
def Chain (o tg c0 c1 : Nat) (ko0 : Nat → Nat) (ar0 : Nat → Int64) (ch0 : Nat → Int32) : List (Ex × Nat) → Nat → Nat → Prop
  | [], p, e => p = e
  | (m, q) :: r, p, e => RepW m p q c0 c1 ko0 ar0 ch0 ∧ p ≤ q ∧ ko0 q = o ∧ ar0 q = lN tg ∧ Chain o tg c0 c1 ko0 ar0 ch0 r (q + 1) e
theorem Chain.le {o tg c0 c1 : Nat} {ko0 : Nat → Nat} {ar0 : Nat → Int64} {ch0 : Nat → Int32} : ∀ {ps : List (Ex × Nat)} {p e : Nat}, Chain o tg c0 c1 ko0 ar0 ch0 ps p e → p ≤ e
  | [], p, e, h => Nat.le_of_eq h
  | (m, q) :: r, p, e, h => by
    have := Chain.le h.2.2.2.2
    have := h.2.1
    omega
section Chains
variable {z : State} {l : Launch} {d : Nat} {σ : Hp} {ad : Nat → Nat} {Q : Outcome → Hp → Prop} {op sg : Nat → Nat} {aO aS mO mS : Nat} {ko : Nat → Nat} {len : Nat} {S0 : Nat → Va} {t : Nat} {kn : Nat → Int32} {w0 : Wd}
theorem rw_in_tail {x : Va} {kx : Int32} {e c0 c1 : Nat} {ko0 : Nat → Nat} {ar0 : Nat → Int64} {ch0 : Nat → Int32} (h8 : 8 ≤ t) (hr : rg_ok kn S0) (hx : ty_ok kx x) (he : e ≤ 1000) (hel : e < len) (h18 : ko0 e = 18) :
    ∀ (ps : List (Ex × Nat)) (p : Nat) (w : Wd) (S : Nat → Va), Chain 9 e c0 c1 ko0 ar0 ch0 ps p e → KP z σ ad op sg aO aS mO mS ko w len → (∀ j, p ≤ j → j ≤ e → ko j = ko0 j ∧ w.eJ 10 j = ar0 j) → (∀ j, c0 ≤ j → j < c1 → w.eI 11 j = ch0 j) → KF w0 w → KS w S (t + 2) 0 → (∀ s, s ≤ t → S s = S0 s) → S (t + 1) = x → t + 2 + wdl (ps.map Prod.fst) ≤ 250 →
      (∀ m ∈ ps.map Prod.fst, EX_S m ∧ (m.1 kn).1 = 0 ∧ (¬ kx = 3 → sp_fits (m.1 kn).2 kx)) →
      ((ev_in x (S (t + 2)) (ps.map Prod.fst) (rg S0)).1 = 0 → ∀ w' S', KF w0 w' → KS w' S' (t + 1) 0 → (∀ s, s ≤ t → S' s = S0 s) → S' (t + 1) = (ev_in x (S (t + 2)) (ps.map Prod.fst) (rg S0)).2 → HD z l d σ ad Q w' (e + 1)) →
      (¬ (ev_in x (S (t + 2)) (ps.map Prod.fst) (rg S0)).1 = 0 → ∀ w' S' t', KF w0 w' → KS w' S' t' (ev_in x (S (t + 2)) (ps.map Prod.fst) (rg S0)).1 → (∀ s, s ≤ 8 → S' s = S0 s) → Q (.returned (some (.int (ev_in x (S (t + 2)) (ps.map Prod.fst) (rg S0)).1))) (ov σ ad 21 w')) →
      HD z l d σ ad Q w p := by
  intro ps
  induction ps with
  | nil =>
    intro p w S hC hp hj hc hf hS lo hx1 ht hms ok er
    have hpe : p = e := hC
    subst hpe
    obtain ⟨q1, q2⟩ := hj p (Nat.le_refl _) (Nat.le_refl _)
    have ht' : t + 2 + 1 ≤ 250 := ht
    exact ks_in (t := t + 2) hp hS (by omega) (by omega) hel (q1.trans h18) (fun w' f' hS' => ok rfl w' _ (hf.trans f') hS' (fun s hs => (va_up_ne _ _ (by omega)).trans (lo s hs)) (va_up_self _ _ _))
  | cons mq r ih =>
    obtain ⟨m, q⟩ := mq
    intro p w S hC hp hj hc hf hS lo hx1 ht hms ok er
    obtain ⟨rm, hpq, hk9, hq9, hCr⟩ := hC
    have hqe := hCr.le
    have ht' : t + 2 + max (max m.2.2 1) (wdl (r.map Prod.fst)) ≤ 250 := ht
    obtain ⟨sm, km, fm⟩ := hms m (List.mem_cons_self)
    have eR := rg_eq h8 lo
    have hR : rg_ok kn (rg S0) := fun r hr9 => by rw [rg, if_pos hr9]; exact hr r hr9
    have hev : ev_in x (S (t + 2)) (((m, q) :: r).map Prod.fst) (rg S0) = if ¬ (m.2.1 (rg S0)).1 = 0 then m.2.1 (rg S0) else if x.1 = 3 ∨ (m.2.1 (rg S0)).2.1 = 3 then ev_in x (3, 0, []) (r.map Prod.fst) (rg S0) else if sp_cmp x (m.2.1 (rg S0)).2 = 0 then (0, (2, 1, [])) else ev_in x (S (t + 2)) (r.map Prod.fst) (rg S0) := rfl
    refine rm z l d σ ad Q op sg aO aS mO mS ko w len S (t + 2) kn hp (by omega) (fun j a1 a2 => hj j a1 (by omega)) hc hS (by omega) (by omega) (hr.mv h8 lo) km (fun e1 w1 S1 f1 hS1 u1 u2 => ?_) (fun e1 w1 S1 t' f1 hS1 u1 => ?_)
    · rw [eR] at e1 u2
      rw [hev, if_neg (fun q => q e1)] at ok er
      have hp1 := hp.kf f1
      obtain ⟨g1, g2⟩ := hj q (by omega) (by omega)
      have x1 : S1 (t + 1) = x := (u1 (t + 1) (by omega)).trans hx1
      have y1 : S1 (t + 3) = (m.2.1 (rg S0)).2 := u2
      have lo1 : ∀ s, s ≤ t → S1 s = S0 s := fun s hs => (u1 s (by omega)).trans (lo s hs)
      have ty : ty_ok (m.1 kn).2 (S1 (t + 3)) := by rw [y1]; exact sm kn (rg S0) _ hR (pr0 km) e1
      have hsm : v_same (S1 (t + 1)) (S1 (t + 3)) := by
        rw [x1]
        by_cases n1 : x.1 = 3
        · exact Or.inl n1
        · exact v_same_of hx ty (fm (fun q => n1 ((hx.k n1).trans q)))
      have nxt := fun (w' : Wd) (f' : KF w1 w') => (fun (j : Nat) (a1 : q + 1 ≤ j) (a2 : j ≤ e) => (show ko j = ko0 j ∧ w'.eJ 10 j = ar0 j by rw [(f1.trans f').2.2.2.2.1 10 (by decide)]; exact hj j (by omega) a2))
      have nch := fun (w' : Wd) (f' : KF w1 w') => (fun (j : Nat) (a1 : c0 ≤ j) (a2 : j < c1) => (show w'.eI 11 j = ch0 j by rw [(f1.trans f').2.2.2.1 11 (by decide) (by decide) (by decide)]; exact hc j a1 a2))
      refine ks_inpart (t := t + 3) hp1 hS1 (by omega) (by omega) (by omega) (g1.trans hk9) (tg := e) (by rw [f1.2.2.2.2.1 10 (by decide), g2, hq9]) (by omega) he hsm (fun hn w' f' hS' => ?_) (fun n1 n2 hz w' f' hS' => ?_) (fun n1 n2 hz w' f' hS' => ?_)
      · have hn' : x.1 = 3 ∨ (m.2.1 (rg S0)).2.1 = 3 := by rw [← x1, ← y1]; exact hn
        rw [if_pos hn'] at ok er
        have a2 : va_up S1 (t + 3 - 1) (3, 0, []) (t + 2) = (3, 0, []) := va_up_self _ _ _
        refine ih (q + 1) w' _ hCr (hp1.kf f') (nxt w' f') (nch w' f') ((hf.trans f1).trans f') hS' (fun s hs => (va_up_ne _ _ (by omega)).trans (lo1 s hs)) ((va_up_ne _ _ (by omega)).trans x1) (by omega) (fun m' hm' => hms m' (List.mem_cons_of_mem _ hm')) ?_ ?_
        · rw [a2]; exact ok
        · rw [a2]; exact er
      · have n1' : ¬ x.1 = 3 := by rw [← x1]; exact n1
        have n2' : ¬ (m.2.1 (rg S0)).2.1 = 3 := by rw [← y1]; exact n2
        have hz' : sp_cmp x (m.2.1 (rg S0)).2 = 0 := by rw [← x1, ← y1]; exact hz
        rw [if_neg (fun q => q.elim n1' n2'), if_pos hz'] at ok
        exact ok rfl w' _ ((hf.trans f1).trans f') hS' (fun s hs => (va_up_ne _ _ (by omega)).trans (lo1 s hs)) (va_up_self _ _ _)
      · have n1' : ¬ x.1 = 3 := by rw [← x1]; exact n1
        have n2' : ¬ (m.2.1 (rg S0)).2.1 = 3 := by rw [← y1]; exact n2
        have hz' : ¬ sp_cmp x (m.2.1 (rg S0)).2 = 0 := by rw [← x1, ← y1]; exact hz
        rw [if_neg (fun q => q.elim n1' n2'), if_neg hz'] at ok er
        have a2 : S1 (t + 2) = S (t + 2) := u1 (t + 2) (Nat.le_refl _)
        refine ih (q + 1) w' S1 hCr (hp1.kf f') (nxt w' f') (nch w' f') ((hf.trans f1).trans f') hS' lo1 x1 (by omega) (fun m' hm' => hms m' (List.mem_cons_of_mem _ hm')) ?_ ?_
        · rw [a2]; exact ok
        · rw [a2]; exact er
    · rw [eR] at e1 hS1 ⊢
      rw [hev, if_pos e1] at er
      exact er e1 w1 S1 t' (hf.trans f1) hS1 (fun s hs => (u1 s hs).trans (lo s (by omega)))
end Chains
