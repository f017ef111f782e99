/-! ===== how many values wait while what was read is worked out ===== -/
def Bd (r : Pr) (b : Nat) : Prop := ∀ m p o, r = .ok (m, p, o) → m.2.2 ≤ b
theorem bd_err {e b : Nat} : Bd (.error e) b := fun _ _ _ h => by cases h
theorem bd_ok {m : Ex} {p o b : Nat} (h : m.2.2 ≤ b) : Bd (.ok (m, p, o)) b := fun _ _ _ q => by cases q; exact h
theorem bd_le {r : Pr} {a b : Nat} (h : Bd r a) (hab : a ≤ b) : Bd r b := fun m p o q => Nat.le_trans (h m p o q) hab
theorem bd_if {c : Prop} [Decidable c] {r s : Pr} {b : Nat} (h1 : c → Bd r b) (h2 : ¬ c → Bd s b) : Bd (if c then r else s) b := by
  by_cases h : c
  · rw [if_pos h]; exact h1 h
  · rw [if_neg h]; exact h2 h
section Wd
variable {T : Nat → Int32} {L : Nat}
theorem w_it (o : Nat) : ∀ (j : Nat) (m : Ex) (b : Nat), m.2.2 ≤ b → 1 ≤ b → (ex_it o j m).2.2 ≤ b
  | 0, m, b, h, _ => h
  | j + 1, m, b, h, h1 => w_it o j (ex_1 o m) b (by show max m.2.2 1 ≤ b; omega) h1
theorem w_wdl : ∀ (ms : List Ex) (b : Nat), (∀ m ∈ ms, m.2.2 ≤ b) → 1 ≤ b → wdl ms ≤ b
  | [], b, _, h1 => h1
  | m :: ms, b, h, h1 => by
    have a1 := h m List.mem_cons_self
    have a2 := w_wdl ms b (fun x hx => h x (List.mem_cons_of_mem _ hx)) h1
    show max (max m.2.2 1) (wdl ms) ≤ b
    omega
theorem bd_take {g : Nat} {m : Ex} {p ops b : Nat} (h : m.2.2 ≤ b) : Bd (sp_take T L g m p ops) b := bd_if (fun _ => bd_ok h) (fun _ => bd_err)
theorem bd_const {p ops b : Nat} (h : 1 ≤ b) : Bd (sp_const T L p ops) b :=
  bd_if (fun _ => bd_ok h) (fun _ => bd_if (fun _ => bd_ok h) (fun _ => bd_if (fun _ => bd_ok h) (fun _ => bd_if (fun _ => bd_ok h) (fun _ => bd_if (fun _ => bd_ok h) (fun _ => bd_err)))))
theorem w_fun {o : Nat} {ms : List Ex} {b : Nat} (h : ∀ m ∈ ms, m.2.2 ≤ b) : (ex_fun o ms).2.2 ≤ max b 1 + 2 := by
  by_cases h40 : o = 40
  · rw [show ex_fun o ms = ex_co ms from if_pos h40]
    have := w_wdl ms (max b 1) (fun m hm => by have := h m hm; omega) (by omega)
    show wdl ms ≤ _
    omega
  · match ms, h with
    | [], _ =>
      rw [show ex_fun o [] = ex_bad o [] from if_neg h40]
      show 1 ≤ _
      omega
    | [m], h =>
      have a1 := h m List.mem_cons_self
      rw [show ex_fun o [m] = if o = 35 ∨ o = 36 ∨ o = 37 ∨ o = 38 then ex_1 o m else ex_bad o [m] from if_neg h40]
      split
      · show max m.2.2 1 ≤ _
        omega
      · show 1 ≤ _
        omega
    | [m1, m2], h =>
      have a1 := h m1 List.mem_cons_self
      have a2 := h m2 (List.mem_cons_of_mem _ List.mem_cons_self)
      rw [show ex_fun o [m1, m2] = if o = 41 then ex_nullif m1 m2 else ex_bad o [m1, m2] from if_neg h40]
      split
      · show max m1.2.2 (max m2.2.2 1 + 1) ≤ _
        omega
      · show 1 ≤ _
        omega
    | [m1, m2, m3], h =>
      have a1 := h m1 List.mem_cons_self
      have a2 := h m2 (List.mem_cons_of_mem _ List.mem_cons_self)
      have a3 := h m3 (List.mem_cons_of_mem _ (List.mem_cons_of_mem _ List.mem_cons_self))
      rw [show ex_fun o [m1, m2, m3] = if o = 39 then ex_substr m1 m2 m3 else ex_bad o [m1, m2, m3] from if_neg h40]
      split
      · show max m1.2.2 (max (max m2.2.2 1 + 1) (max m3.2.2 1 + 2)) ≤ _
        omega
      · show 1 ≤ _
        omega
    | m1 :: m2 :: m3 :: m4 :: r, _ =>
      rw [show ex_fun o (m1 :: m2 :: m3 :: m4 :: r) = ex_bad o (m1 :: m2 :: m3 :: m4 :: r) from if_neg h40]
      show 1 ≤ _
      omega
theorem w_list {X : PX} {k b : Nat} (hX : ∀ p ops, Bd (X (k + 1) p ops) b) : ∀ (n p ops : Nat) (ms : List Ex) (p' o' : Nat), sp_list T L X k n p ops = .ok (ms, p', o') → ∀ m ∈ ms, m.2.2 ≤ b
  | 0, p, ops, ms, p', o', h, m, hm => by cases h
  | n + 1, p, ops, ms, p', o', h, m, hm => by
    unfold sp_list at h
    cases hr : X (k + 1) p ops with
    | error e => rw [hr] at h; cases h
    | ok x =>
      obtain ⟨m1, p1, o1⟩ := x
      rw [hr] at h
      have h1 := hX p ops m1 p1 o1 hr
      replace h : (if tk_g T L p1 = 32 then (match sp_list T L X k n (tk_e T L p1) o1 with
        | .error e => .error e
        | .ok (ms, p2, o2) => .ok (m1 :: ms, p2, o2)) else .ok ([m1], p1, o1)) = Except.ok (ε := Nat) (ms, p', o') := h
      split at h
      · cases hr2 : sp_list T L X k n (tk_e T L p1) o1 with
        | error e => rw [hr2] at h; cases h
        | ok y =>
          obtain ⟨ms2, p2, o2⟩ := y
          rw [hr2] at h
          cases h
          rcases List.mem_cons.mp hm with rfl | hm
          · exact h1
          · exact w_list hX n _ _ ms2 _ _ hr2 m hm
      · cases h
        rcases List.mem_cons.mp hm with rfl | hm
        · exact h1
        · exact absurd hm List.not_mem_nil
theorem w_whens {X : PX} {k b : Nat} (hX : ∀ p ops, Bd (X (k + 1) p ops) b) : ∀ (n p ops : Nat) (cs : List (Ex × Ex)) (p' o' : Nat), sp_whens T L X k n p ops = .ok (cs, p', o') → ∀ me : Ex, me.2.2 ≤ b → ∀ m ∈ ca_parts me cs, m.2.2 ≤ b
  | 0, p, ops, cs, p', o', h, me, hme, m, hm => by cases h
  | n + 1, p, ops, cs, p', o', h, me, hme, m, hm => by
    unfold sp_whens at h
    split at h
    · cases hr : X (k + 1) (tk_e T L p) ops with
      | error e => rw [hr] at h; cases h
      | ok x =>
        obtain ⟨m1, p1, o1⟩ := x
        rw [hr] at h
        have h1 := hX _ _ m1 p1 o1 hr
        replace h : (if tk_g T L p1 = 10 then (match X (k + 1) (tk_e T L p1) o1 with
          | .error e => .error e
          | .ok (r, p2, o2) => if tk_g T L p2 = 9 then (match sp_whens T L X k n p2 o2 with
            | .error e => .error e
            | .ok (cs, p3, o3) => .ok ((m1, r) :: cs, p3, o3)) else .ok ([(m1, r)], p2, o2)) else .error (tk_s T L p1)) = Except.ok (ε := Nat) (cs, p', o') := h
        split at h
        · cases hr2 : X (k + 1) (tk_e T L p1) o1 with
          | error e => rw [hr2] at h; cases h
          | ok y =>
            obtain ⟨m2, p2, o2⟩ := y
            rw [hr2] at h
            have h2 := hX _ _ m2 p2 o2 hr2
            replace h : (if tk_g T L p2 = 9 then (match sp_whens T L X k n p2 o2 with
              | .error e => .error e
              | .ok (cs, p3, o3) => .ok ((m1, m2) :: cs, p3, o3)) else .ok ([(m1, m2)], p2, o2)) = Except.ok (ε := Nat) (cs, p', o') := h
            split at h
            · cases hr3 : sp_whens T L X k n p2 o2 with
              | error e => rw [hr3] at h; cases h
              | ok u =>
                obtain ⟨cs3, p3, o3⟩ := u
                rw [hr3] at h
                cases h
                rcases List.mem_cons.mp hm with hm | hm
                · rw [show m = m1 from hm]; exact h1
                · rcases List.mem_cons.mp hm with hm | hm
                  · rw [show m = m2 from hm]; exact h2
                  · exact w_whens hX n _ _ cs3 _ _ hr3 me hme m hm
            · cases h
              rcases List.mem_cons.mp hm with hm | hm
              · rw [show m = m1 from hm]; exact h1
              · rcases List.mem_cons.mp hm with hm | hm
                · rw [show m = m2 from hm]; exact h2
                · rcases List.mem_cons.mp hm with hm | hm
                  · rw [show m = me from hm]; exact hme
                  · exact absurd hm List.not_mem_nil
        · cases h
    · cases h
theorem w_prim {X : PX} {k b : Nat} (hX : ∀ p ops, Bd (X (k + 1) p ops) b) (p ops : Nat) : Bd (sp_prim T L X k p ops) (max b 1 + 2) := by
  refine bd_if (fun _ => ?_) (fun _ => bd_if (fun _ => ?_) (fun _ => bd_if (fun _ => ?_) (fun _ => bd_const (by omega))))
  · refine bd_if (fun _ => ?_) (fun _ => bd_if (fun _ => bd_ok (by show 1 ≤ _; omega)) (fun _ => bd_err))
    cases hr : sp_args T L X k (tk_e T L (tk_e T L p)) ops with
    | error e => exact bd_err
    | ok x =>
      obtain ⟨ms, p2, o2⟩ := x
      refine bd_take (w_fun (fun m hm => ?_))
      unfold sp_args at hr
      split at hr
      · cases hr
        exact absurd hm List.not_mem_nil
      · exact w_list hX _ _ _ _ _ _ hr m hm
  · unfold sp_case
    cases hr : sp_whens T L X k 19 (tk_e T L p) ops with
    | error e => exact bd_err
    | ok x =>
      obtain ⟨cs, p2, o2⟩ := x
      show Bd (match sp_else T L X k p2 o2 with
        | .error e => .error e
        | .ok (me, p3, o3) => sp_take T L 12 (ex_case cs me) p3 o3) _
      cases hr2 : sp_else T L X k p2 o2 with
      | error e => exact bd_err
      | ok y =>
        obtain ⟨me, p3, o3⟩ := y
        refine bd_take ?_
        have hme : me.2.2 ≤ max b 1 := by
          unfold sp_else at hr2
          split at hr2
          · have := hX _ _ me p3 o3 hr2
            omega
          · cases hr2
            show 1 ≤ _
            omega
        have := w_wdl (ca_parts me cs) (max b 1) (w_whens (fun p ops => bd_le (hX p ops) (by omega)) 19 _ _ cs p2 o2 hr me hme) (by omega)
        show wdl (ca_parts me cs) ≤ _
        omega
  · unfold sp_paren
    cases hr : X (k + 1) (tk_e T L p) ops with
    | error e => exact bd_err
    | ok x =>
      obtain ⟨m, p2, o2⟩ := x
      have := hX _ _ m p2 o2 hr
      exact bd_take (by omega)
theorem w_factor {X : PX} {k : Nat} (hX : ∀ k', k < k' → k' ≤ 31 → ∀ p ops, Bd (X k' p ops) (8 * (31 - k') + 1)) (hk : k ≤ 30) (p ops : Nat) : Bd (sp_factor T L X k p ops) (8 * (30 - k) + 3) := by
  unfold sp_factor
  cases hr : sp_front T L 25 (30 - k) p with
  | error e => exact bd_err
  | ok x =>
    obtain ⟨j, q⟩ := x
    have hj : j ≤ 30 - k := by
      have : ∀ (s f p j q : Nat), sp_front T L s f p = .ok (j, q) → j ≤ f := by
        intro s f
        induction f with
        | zero =>
          intro p j q h
          unfold sp_front at h
          split at h
          · cases h
          · cases h; exact Nat.le_refl _
        | succ f ih =>
          intro p j q h
          unfold sp_front at h
          split at h
          · cases hr : sp_front T L s f (tk_e T L p) with
            | error e => rw [hr] at h; cases h
            | ok x =>
              obtain ⟨j', q'⟩ := x
              rw [hr] at h
              cases h
              have := ih _ _ _ hr
              omega
          · cases h; exact Nat.zero_le _
      exact this _ _ _ _ _ hr
    have h1 := w_prim (T := T) (L := L) (X := X) (k := k + j) (b := 8 * (31 - (k + j + 1)) + 1) (hX (k + j + 1) (by omega) (by omega)) q ops
    show Bd (match sp_prim T L X (k + j) q ops with
      | .error e => .error e
      | .ok (m, p2, o2) => .ok (ex_it 33 j m, p2, o2)) _
    cases hr2 : sp_prim T L X (k + j) q ops with
    | error e => exact bd_err
    | ok y =>
      obtain ⟨m, p2, o2⟩ := y
      have := h1 m p2 o2 hr2
      exact bd_ok (w_it 33 j m _ (by omega) (by omega))
theorem w_ops {F : Nat → Nat → Pr} {og : Nat → Nat} {mk : Nat → Ex → Ex → Ex} {b : Nat} (hb : 1 ≤ b) (hF : ∀ p ops, Bd (F p ops) b) (hm : ∀ o m1 m2, (mk o m1 m2).2.2 ≤ max m1.2.2 (max m2.2.2 1 + 1)) : ∀ (n : Nat) (m : Ex) (p ops : Nat), m.2.2 ≤ b + 1 → Bd (sp_ops T L F og mk n m p ops) (b + 1)
  | 0, m, p, ops, h => bd_ok h
  | n + 1, m, p, ops, h => by
    refine bd_if (fun _ => bd_ok h) (fun _ => bd_if (fun _ => bd_err) (fun _ => ?_))
    cases hr : F (tk_e T L p) (ops + 1) with
    | error e => exact bd_err
    | ok x =>
      obtain ⟨m2, p2, o2⟩ := x
      have h1 := hF _ _ m2 p2 o2 hr
      have h2 := hm (og (tk_g T L p)) m m2
      exact w_ops hb hF hm n _ p2 o2 (by omega)
theorem w_row {F : Nat → Nat → Pr} {og : Nat → Nat} {mk : Nat → Ex → Ex → Ex} {b : Nat} (hb : 1 ≤ b) (hF : ∀ p ops, Bd (F p ops) b) (hm : ∀ o m1 m2, (mk o m1 m2).2.2 ≤ max m1.2.2 (max m2.2.2 1 + 1)) (p ops : Nat) : Bd (sp_row T L F og mk p ops) (b + 1) := by
  unfold sp_row
  cases hr : F p ops with
  | error e => exact bd_err
  | ok x =>
    obtain ⟨m, p1, o1⟩ := x
    have := hF p ops m p1 o1 hr
    exact w_ops hb hF hm 301 m p1 o1 (by omega)
theorem w_sum {X : PX} {k : Nat} (hX : ∀ k', k < k' → k' ≤ 31 → ∀ p ops, Bd (X k' p ops) (8 * (31 - k') + 1)) (hk : k ≤ 30) (p ops : Nat) : Bd (sp_sum T L X k p ops) (8 * (30 - k) + 5) :=
  w_row (b := 8 * (30 - k) + 4) (by omega) (fun p ops => w_row (b := 8 * (30 - k) + 3) (by omega) (w_factor hX hk) (fun _ _ _ => Nat.le_refl _) p ops) (fun _ _ _ => Nat.le_refl _) p ops
end Wd
section Wd2
variable {T : Nat → Int32} {L : Nat} {X : PX} {k : Nat}
theorem w_two {o b : Nat} {a : Ex} (hS : ∀ p ops, Bd (sp_sum T L X k p ops) b) (ha : a.2.2 ≤ b) (hb : 1 ≤ b) (p ops : Nat) : Bd (sp_two T L X k o a p ops) (b + 2) := by
  unfold sp_two
  cases hr : sp_sum T L X k p ops with
  | error e => exact bd_err
  | ok x =>
    obtain ⟨m, p2, o2⟩ := x
    have := hS p ops m p2 o2 hr
    refine bd_ok ?_
    show max a.2.2 (max m.2.2 1 + 1) ≤ _
    omega
theorem w_within {b c : Nat} {a : Ex} {nd : Bool} (hX : ∀ p ops, Bd (X (k + 1) p ops) c) (hcb : max c 1 + 2 ≤ b + 2) (hS : ∀ p ops, Bd (sp_sum T L X k p ops) b) (ha : a.2.2 ≤ b) (hb : 1 ≤ b) (p ops : Nat) : Bd (sp_within T L X k a nd p ops) (b + 2) := by
  refine bd_if (fun _ => ?_) (fun _ => bd_if (fun _ => w_two hS ha hb _ _) (fun _ => bd_if (fun _ => ?_) (fun _ => bd_if (fun _ => bd_err) (fun _ => bd_ok (by omega)))))
  · refine bd_if (fun _ => ?_) (fun _ => bd_err)
    cases hr : sp_list T L X k 8 (tk_e T L (tk_e T L p)) ops with
    | error e => exact bd_err
    | ok x =>
      obtain ⟨ms, p2, o2⟩ := x
      have h1 := w_list hX _ _ _ _ _ _ hr
      have h2 := w_wdl ms (max c 1) (fun m hm => by have := h1 m hm; omega) (by omega)
      refine bd_take ?_
      show max a.2.2 (wdl ms + 2) ≤ _
      omega
  · unfold sp_betw
    cases hr : sp_sum T L X k (tk_e T L p) ops with
    | error e => exact bd_err
    | ok x =>
      obtain ⟨m2, p1, o1⟩ := x
      have h2 := hS _ _ m2 p1 o1 hr
      show Bd (if tk_g T L p1 = 1 then (match sp_sum T L X k (tk_e T L p1) o1 with
        | .error e => .error e
        | .ok (c, p2, o2) => .ok (ex_between a m2 c, p2, o2)) else .error (tk_s T L p1)) _
      refine bd_if (fun _ => ?_) (fun _ => bd_err)
      cases hr3 : sp_sum T L X k (tk_e T L p1) o1 with
      | error e => exact bd_err
      | ok y =>
        obtain ⟨m3, p3, o3⟩ := y
        have h3 := hS _ _ m3 p3 o3 hr3
        refine bd_ok ?_
        show max a.2.2 (max (max m2.2.2 1 + 1) (max m3.2.2 1 + 2)) ≤ _
        omega
theorem w_cmpr {b c : Nat} {a : Ex} (hX : ∀ p ops, Bd (X (k + 1) p ops) c) (hcb : max c 1 + 2 ≤ b + 2) (hS : ∀ p ops, Bd (sp_sum T L X k p ops) b) (ha : a.2.2 ≤ b) (hb : 1 ≤ b) (p ops : Nat) : Bd (sp_cmpr T L X k a p ops) (b + 2) := by
  refine bd_if (fun _ => w_two hS ha hb _ _) (fun _ => bd_if (fun _ => ?_) (fun _ => bd_if (fun _ => ?_) (fun _ => w_within hX hcb hS ha hb _ _)))
  · refine bd_if (fun _ => bd_take ?_) (fun _ => bd_take ?_)
    · show max (max a.2.2 1) 1 ≤ _
      omega
    · show max a.2.2 1 ≤ _
      omega
  · have h1 := w_within (nd := true) hX hcb hS ha hb (tk_e T L p) ops
    cases hr : sp_within T L X k a true (tk_e T L p) ops with
    | error e => exact bd_err
    | ok x =>
      obtain ⟨m, p2, o2⟩ := x
      have := h1 m p2 o2 hr
      refine bd_ok ?_
      show max m.2.2 1 ≤ _
      omega
theorem w_cond (hX : ∀ k', k < k' → k' ≤ 31 → ∀ p ops, Bd (X k' p ops) (8 * (31 - k') + 1)) (hk : k ≤ 30) (p ops : Nat) : Bd (sp_cond T L X k p ops) (8 * (30 - k) + 7) := by
  unfold sp_cond
  cases hr : sp_front T L 2 (30 - k) p with
  | error e => exact bd_err
  | ok x =>
    obtain ⟨j, q⟩ := x
    have hj : j ≤ 30 - k := by
      have : ∀ (s f p j q : Nat), sp_front T L s f p = .ok (j, q) → j ≤ f := by
        intro s f
        induction f with
        | zero =>
          intro p j q h
          unfold sp_front at h
          split at h
          · cases h
          · cases h; exact Nat.le_refl _
        | succ f ih =>
          intro p j q h
          unfold sp_front at h
          split at h
          · cases hr : sp_front T L s f (tk_e T L p) with
            | error e => rw [hr] at h; cases h
            | ok x =>
              obtain ⟨j', q'⟩ := x
              rw [hr] at h
              cases h
              have := ih _ _ _ hr
              omega
          · cases h; exact Nat.zero_le _
      exact this _ _ _ _ _ hr
    have hX' : ∀ k', k + j < k' → k' ≤ 31 → ∀ p ops, Bd (X k' p ops) (8 * (31 - k') + 1) := fun k' a1 a2 => hX k' (by omega) a2
    have hS : ∀ p ops, Bd (sp_sum T L X (k + j) p ops) (8 * (30 - (k + j)) + 5) := w_sum hX' (by omega)
    show Bd (match sp_condB T L X (k + j) q ops with
      | .error e => .error e
      | .ok (m, p2, o2) => .ok (ex_it 16 j m, p2, o2)) _
    have h1 : Bd (sp_condB T L X (k + j) q ops) (8 * (30 - k) + 7) := by
      unfold sp_condB
      cases hr2 : sp_sum T L X (k + j) q ops with
      | error e => exact bd_err
      | ok y =>
        obtain ⟨a, p2, o2⟩ := y
        have ha := hS q ops a p2 o2 hr2
        exact bd_le (w_cmpr (hX (k + j + 1) (by omega) (by omega)) (by omega) hS ha (by omega) p2 o2) (by omega)
    cases hr2 : sp_condB T L X (k + j) q ops with
    | error e => exact bd_err
    | ok y =>
      obtain ⟨m, p2, o2⟩ := y
      have := h1 m p2 o2 hr2
      exact bd_ok (w_it 16 j m _ (by omega) (by omega))
end Wd2
theorem w_X {T : Nat → Int32} {L : Nat} : ∀ (f k : Nat), k ≤ 31 → 31 ≤ f + k → ∀ p ops, Bd (sp_X T L f k p ops) (8 * (31 - k) + 1)
  | 0, k, _, _, p, ops => bd_err
  | f + 1, k, hk, hf, p, ops => by
    refine bd_if (fun _ => bd_err) (fun h => ?_)
    have hX : ∀ k', k < k' → k' ≤ 31 → ∀ p ops, Bd (sp_X T L f k' p ops) (8 * (31 - k') + 1) := fun k' a1 a2 => w_X f k' a2 (by omega)
    have := w_row (T := T) (L := L) (og := og_or) (mk := fun _ => ex_or) (b := 8 * (30 - k) + 8) (by omega) (fun p ops => w_row (T := T) (L := L) (og := og_and) (mk := fun _ => ex_and) (b := 8 * (30 - k) + 7) (by omega) (w_cond (T := T) (L := L) hX (by omega)) (fun _ _ _ => Nat.le_refl _) p ops) (fun _ _ _ => Nat.le_refl _) p ops
    exact bd_le this (by omega)
theorem w_read {T : Nat → Int32} {L : Nat} {m : Ex} (h : sp_read T L = .ok m) : m.2.2 ≤ 241 := by
  unfold sp_read at h
  cases hr : sp_X T L 31 1 0 0 with
  | error e => rw [hr] at h; cases h
  | ok x =>
    obtain ⟨m', p, o⟩ := x
    rw [hr] at h
    replace h : (if tk_g T L p = 33 then .ok m' else .error (tk_s T L p)) = Except.ok (ε := Nat) m := h
    split at h
    · cases h
      exact w_X 31 1 (by decide) (by decide) 0 0 m p o hr
    · cases h
