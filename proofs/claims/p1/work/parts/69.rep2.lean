/-! ===== IN, COALESCE, CASE and the functions by name ===== -/
section Lists2
variable {o c : Nat} {ko : Nat → Nat} {ar : Nat → Int64} {ch : Nat → Int32}
theorem PN.mono {c' : Nat} {ko' : Nat → Nat} {ar' : Nat → Int64} {ch' : Nat → Int32} (h2 : ∀ j, j < c → ch' j = ch j) (h3 : c ≤ c') : ∀ {ms : List Ex} {p e : Nat}, PN c ko ar ch ms p e → (∀ j, p ≤ j → j < e → ko' j = ko j ∧ ar' j = ar j) → PN c' ko' ar' ch' ms p e
  | [], p, e, h, _ => h
  | m :: r, p, e, ⟨q, h1, h⟩, k => by
    have hle := PN.le h
    have hq := h1.1
    exact ⟨q, h1.mono (fun j a1 a2 => k j a1 (by omega)) h2 h3, PN.mono h2 h3 h (fun j a1 a2 => k j (by omega) a2)⟩
theorem ps_chain {tg : Nat} : ∀ {ps : List (Ex × Nat)} {p e : Nat}, PS o c ko ar ch ps p e → (∀ j ∈ ps.map Prod.snd, ar j = lN tg) → Chain o tg 0 c ko ar ch ps p e
  | [], p, e, h, _ => h
  | (m, q) :: r, p, e, h, k => ⟨h.1.2.1, Nat.le_of_lt h.1.1, h.2.1, k q List.mem_cons_self, ps_chain h.2.2 (fun j hj => k j (List.mem_cons_of_mem _ hj))⟩
theorem ps_rl (h6 : 6 ≤ o) (h13 : o ≤ 13) {a : Nat} : ∀ {ps : List (Ex × Nat)} {ms : List Ex} {p e : Nat}, RepL ms a p ko ar → PS o c ko ar ch ps p e → RepL (ms ++ ps.map Prod.fst) a e ko ar
  | [], ms, p, e, hL, h => by
    have h' : p = e := h
    subst h'
    simpa using hL
  | (m, q) :: r, ms, p, e, hL, h => by
    have := ps_rl h6 h13 (rl_pass (rl_add hL h.1.2.2.1 h.1.1) h.2.1 h6 h13) h.2.2
    simpa using this
theorem pn_rl {a : Nat} : ∀ {ns : List Ex} {ms : List Ex} {p e : Nat}, RepL ms a p ko ar → PN c ko ar ch ns p e → RepL (ms ++ ns) a e ko ar
  | [], ms, p, e, hL, h => by
    have h' : p = e := h
    subst h'
    simpa using hL
  | m :: r, ms, p, e, hL, ⟨q, h1, h⟩ => by
    have := pn_rl (rl_add hL h1.2.2.1 h1.1) h
    simpa using this
theorem ps_ex : ∀ {ps : List (Ex × Nat)} {p e : Nat}, PS o c ko ar ch ps p e → ∀ m ∈ ps.map Prod.fst, EX_S m ∧ EX_K m
  | [], p, e, h, m, hm => absurd hm List.not_mem_nil
  | (m', q) :: r, p, e, h, m, hm => by
    rcases List.mem_cons.mp hm with hm | hm
    · have : m = m' := hm
      subst this
      exact h.1.2.2.2
    · exact ps_ex h.2.2 m hm
theorem pn_ex : ∀ {ms : List Ex} {p e : Nat}, PN c ko ar ch ms p e → ∀ m ∈ ms, EX_S m ∧ EX_K m
  | [], p, e, h, m, hm => absurd hm List.not_mem_nil
  | m' :: r, p, e, ⟨q, h1, h⟩, m, hm => by
    rcases List.mem_cons.mp hm with rfl | hm
    · exact h1.2.2.2
    · exact pn_ex h m hm
theorem rp_in {mx : Ex} {ps : List (Ex × Nat)} {a b e : Nat} (rx : Rep mx a b c ko ar ch) (h1 : ko b = 8) (hP : PS 9 c ko ar ch ps (b + 1) e) (ht : ∀ j ∈ ps.map Prod.snd, ar j = lN e) (he : e ≤ 1000) (h2 : ko e = 18) (h3 : ar e = lN (1 + ps.length)) : Rep (ex_in mx (ps.map Prod.fst)) a (e + 1) c ko ar ch := by
  obtain ⟨a1, w1, k1, s1, x1⟩ := rx
  have hle := hP.le
  have hex := ps_ex hP
  have hL : RepL (mx :: ps.map Prod.fst) a e ko ar := ps_rl (ms := [mx]) (by decide) (by decide) (rl_pass (rl_1 k1 a1) h1 (by decide) (by decide)) hP
  have hn : (mx :: ps.map Prod.fst).length = 1 + ps.length := by simp; omega
  refine ⟨by omega, rw_in s1 (fun m hm => (hex m hm).1) w1 (by omega) h1 (ps_chain hP ht) he h2, rk_close hL (by decide) (by decide) h2 (by rw [h3, hn]) (KE.refl _), es_in, ek_n (fun m hm => ?_) (by decide)⟩
  rcases List.mem_cons.mp hm with rfl | hm
  · exact x1
  · exact (hex m hm).2
theorem rp_co {ps : List (Ex × Nat)} {a e : Nat} (hP : PS 13 c ko ar ch ps a e) (ht : ∀ j ∈ ps.map Prod.snd, ar j = lN e) (he : e ≤ 1000) (h2 : ko e = 40) (h3 : ar e = lN ps.length) : Rep (ex_co (ps.map Prod.fst)) a (e + 1) c ko ar ch := by
  have hle := hP.le
  have hex := ps_ex hP
  have hL : RepL (ps.map Prod.fst) a e ko ar := ps_rl (ms := []) (by decide) (by decide) rl_nil hP
  exact ⟨by omega, rw_co (ps_chain hP ht) he h2, rk_close hL (by decide) (by decide) h2 (by rw [h3, List.length_map]) (KE.refl _), es_co (fun m hm => (hex m hm).1) (fun m hm => (hex m hm).2), ek_n (fun m hm => (hex m hm).2) (by decide)⟩
/-! CASE -/
def ca_us (ps : List (Ex × Nat × Ex × Nat)) : List Nat := ps.map fun x => x.2.2.2
theorem pc_lo : ∀ {ps : List (Ex × Nat × Ex × Nat)} {p e : Nat}, PCa c ko ar ch ps p e → ∀ j ∈ ca_us ps, p ≤ j ∧ j < e
  | [], p, e, h, j, hj => absurd hj List.not_mem_nil
  | (m1, q, m2, u) :: r, p, e, h, j, hj => by
    have := h.1.1
    have := h.2.2.2.1.1
    have := PCa.le h.2.2.2.2.2
    rcases List.mem_cons.mp hj with hm | hm
    · have : j = u := hm
      omega
    · have := pc_lo h.2.2.2.2.2 j hm
      omega
theorem PCa.mono {c' : Nat} {ko' : Nat → Nat} {ar' : Nat → Int64} {ch' : Nat → Int32} (h2 : ∀ j, j < c → ch' j = ch j) (h3 : c ≤ c') : ∀ {ps : List (Ex × Nat × Ex × Nat)} {p e : Nat}, PCa c ko ar ch ps p e → (∀ j, p ≤ j → j < e → ko' j = ko j) → (∀ j, p ≤ j → j < e → j ∉ ca_us ps → ar' j = ar j) → PCa c' ko' ar' ch' ps p e
  | [], p, e, h, _, _ => h
  | (m1, q, m2, u) :: r, p, e, h, k1, k2 => by
    have hq := h.1.1
    have hu := h.2.2.2.1.1
    have hle := PCa.le h.2.2.2.2.2
    have nin : ∀ j, j < u → j ∉ ca_us ((m1, q, m2, u) :: r) := fun j hj hm => by
      rcases List.mem_cons.mp hm with hm | hm
      · have : j = u := hm
        omega
      · have := pc_lo h.2.2.2.2.2 j hm
        omega
    refine ⟨h.1.mono (fun j a1 a2 => ⟨k1 j a1 (by omega), k2 j a1 (by omega) (nin j (by omega))⟩) h2 h3, (k1 q (by omega) (by omega)).trans h.2.1, (k2 q (by omega) (by omega) (nin q (by omega))).trans h.2.2.1, h.2.2.2.1.mono (fun j a1 a2 => ⟨k1 j (by omega) (by omega), k2 j (by omega) (by omega) (nin j (by omega))⟩) h2 h3, (k1 u (by omega) (by omega)).trans h.2.2.2.2.1, PCa.mono h2 h3 h.2.2.2.2.2 (fun j a1 a2 => k1 j (by omega) a2) (fun j a1 a2 hn => k2 j (by omega) a2 (fun hm => ?_))⟩
    rcases List.mem_cons.mp hm with hm | hm
    · have : j = u := hm
      omega
    · exact hn hm
theorem pc_chain {tg : Nat} : ∀ {ps : List (Ex × Nat × Ex × Nat)} {p e : Nat}, PCa c ko ar ch ps p e → (∀ j ∈ ca_us ps, ar j = lN tg) → ChainC tg 0 c ko ar ch ps p e
  | [], p, e, h, _ => h
  | (m1, q, m2, u) :: r, p, e, h, k => ⟨h.1.2.1, Nat.le_of_lt h.1.1, h.2.1, h.2.2.1, h.2.2.2.1.2.1, Nat.le_of_lt h.2.2.2.1.1, h.2.2.2.2.1, k u List.mem_cons_self, pc_chain h.2.2.2.2.2 (fun j hj => k j (List.mem_cons_of_mem _ hj))⟩
theorem pc_rl {me : Ex} {a e' : Nat} : ∀ {ps : List (Ex × Nat × Ex × Nat)} {ms : List Ex} {p e : Nat}, RepL ms a p ko ar → PCa c ko ar ch ps p e → RepK me e e' ko ar → e < e' → RepL (ms ++ ca_parts me (ca_ex ps)) a e' ko ar
  | [], ms, p, e, hL, h, k, he => by
    have h' : p = e := h
    subst h'
    exact rl_add hL k he
  | (m1, q, m2, u) :: r, ms, p, e, hL, h, k, he => by
    have := pc_rl (rl_pass (rl_add (rl_pass (rl_add hL h.1.2.2.1 h.1.1) h.2.1 (by decide) (by decide)) h.2.2.2.1.2.2.1 h.2.2.2.1.1) h.2.2.2.2.1 (by decide) (by decide)) h.2.2.2.2.2 k he
    have e1 : ca_parts me (ca_ex ((m1, q, m2, u) :: r)) = m1 :: m2 :: ca_parts me (ca_ex r) := rfl
    rw [e1]
    simpa using this
theorem pc_ex : ∀ {ps : List (Ex × Nat × Ex × Nat)} {p e : Nat}, PCa c ko ar ch ps p e → ∀ {me : Ex}, EX_S me ∧ EX_K me → ∀ m ∈ ca_parts me (ca_ex ps), EX_S m ∧ EX_K m
  | [], p, e, h, me, hme, m, hm => by
    rcases List.mem_cons.mp hm with rfl | hm
    · exact hme
    · exact absurd hm List.not_mem_nil
  | (m1, q, m2, u) :: r, p, e, h, me, hme, m, hm => by
    rcases List.mem_cons.mp hm with hm | hm
    · have : m = m1 := hm
      subst this
      exact h.1.2.2.2
    · rcases List.mem_cons.mp hm with hm | hm
      · have : m = m2 := hm
        subst this
        exact h.2.2.2.1.2.2.2
      · exact pc_ex h.2.2.2.2.2 hme m hm
theorem ca_len (me : Ex) : ∀ (cs : List (Ex × Ex)), (ca_parts me cs).length = 1 + 2 * cs.length
  | [] => rfl
  | (x, y) :: cs => by
    show (ca_parts me cs).length + 1 + 1 = _
    rw [ca_len me cs, List.length_cons]
    omega
theorem rp_case {me : Ex} {ps : List (Ex × Nat × Ex × Nat)} {a pe e : Nat} (hP : PCa c ko ar ch ps a pe) (re : Rep me pe e c ko ar ch) (ht : ∀ j ∈ ca_us ps, ar j = lN e) (he : e ≤ 1000) (h2 : ko e = 34) (h3 : ar e = lN (1 + 2 * ps.length)) : Rep (ex_case (ca_ex ps) me) a (e + 1) c ko ar ch := by
  have hle := hP.le
  have hre := re.1
  have hex := pc_ex hP re.2.2.2
  have hL : RepL (ca_parts me (ca_ex ps)) a e ko ar := pc_rl (ms := []) rl_nil hP re.2.2.1 re.1
  refine ⟨by omega, rw_case (pc_chain hP ht) re.2.1 (by omega) he h2, rk_close hL (by decide) (by decide) h2 ?_ (KE.refl _), es_case (fun m hm => (hex m hm).1) (fun m hm => (hex m hm).2), ek_n (fun m hm => (hex m hm).2) (by decide)⟩
  rw [h3, ca_len]
  congr 3
  exact (List.length_map _).symm
/-! a function by its number of parts -/
def ex_bad (o : Nat) (ms : List Ex) : Ex := (ckn o ms, fun _ => (0, v_null), 1)
def ex_fun (o : Nat) (ms : List Ex) : Ex := if o = 40 then ex_co ms else match ms with
  | [m] => if o = 35 ∨ o = 36 ∨ o = 37 ∨ o = 38 then ex_1 o m else ex_bad o ms
  | [m1, m2] => if o = 41 then ex_nullif m1 m2 else ex_bad o ms
  | [m1, m2, m3] => if o = 39 then ex_substr m1 m2 m3 else ex_bad o ms
  | _ => ex_bad o ms
theorem bad_ck {o : Nat} {ms : List Ex} (h : sp_takes o ms.length = false) (kn : Nat → Int32) : ¬ (ckn o ms kn).1 = 0 := by
  intro q
  obtain ⟨h1, h2⟩ := ckn_ok q
  rw [h2, sp_kc, List.length_map, h] at q
  exact absurd (show (2 : Int32) = 0 from q) (by decide)
theorem rp_bad {o : Nat} {ms : List Ex} {a e : Nat} (ho : o < 43) (hcl : ¬ op_closing.getD o 0 = 0) (hP : PN c ko ar ch ms a e) (h : sp_takes o ms.length = false) (h2 : ko e = o) (h3 : ar e = lN ms.length) : Rep (ex_bad o ms) a (e + 1) c ko ar ch := by
  have hle := hP.le
  have hL : RepL ms a e ko ar := pn_rl (ms := []) rl_nil hP
  refine ⟨by omega, ?_, rk_close hL ho hcl h2 h3 (KE.refl _), ?_, ?_⟩
  · intro z l d σ ad Q op sg aO aS mO mS ko w len S t kn hp hb hj hc hS h8 ht hr hk ok er
    exact absurd hk (bad_ck h kn)
  · intro kn R k hr hk
    exact absurd (congrArg Prod.fst hk) (bad_ck h kn)
  · intro kn R hr hk
    exact absurd hk (bad_ck h kn)
theorem rp_fun {o : Nat} {ms : List Ex} {a e : Nat} (ho : 35 ≤ o) (ho2 : o < 43) (h40 : o ≠ 40) (hP : PN c ko ar ch ms a e) (h2 : ko e = o) (h3 : ar e = lN ms.length) : Rep (ex_fun o ms) a (e + 1) c ko ar ch := by
  have hd : o = 35 ∨ o = 36 ∨ o = 37 ∨ o = 38 ∨ o = 39 ∨ o = 41 ∨ o = 42 := by omega
  have hcl : ¬ op_closing.getD o 0 = 0 := by
    rcases hd with h | h | h | h | h | h | h <;> rw [h] <;> decide
  have bad : sp_takes o ms.length = false → Rep (ex_bad o ms) a (e + 1) c ko ar ch := fun h => rp_bad ho2 hcl hP h h2 h3
  match ms, hP, h3, bad with
  | [], hP, h3, bad =>
    rw [show ex_fun o [] = ex_bad o [] from if_neg h40]
    exact bad (by rcases hd with h | h | h | h | h | h | h <;> rw [h] <;> decide)
  | [m], ⟨q, r1, e1⟩, h3, bad =>
    have e1' : q = e := e1
    subst e1'
    rw [show ex_fun o [m] = if o = 35 ∨ o = 36 ∨ o = 37 ∨ o = 38 then ex_1 o m else ex_bad o [m] from if_neg h40]
    by_cases h : o = 35 ∨ o = 36 ∨ o = 37 ∨ o = 38
    · rw [if_pos h]
      exact rp_1 (by omega) r1 h2 (h3.trans rfl)
    · rw [if_neg h]
      exact bad (by
        have h' : o = 39 ∨ o = 41 ∨ o = 42 := by omega
        rcases h' with h | h | h <;> rw [h] <;> rfl)
  | [m1, m2], ⟨q, r1, q2, r2, e1⟩, h3, bad =>
    have e1' : q2 = e := e1
    subst e1'
    rw [show ex_fun o [m1, m2] = if o = 41 then ex_nullif m1 m2 else ex_bad o [m1, m2] from if_neg h40]
    by_cases h : o = 41
    · rw [if_pos h]
      exact rp_nullif r1 r2 (h2.trans h) (h3.trans rfl)
    · rw [if_neg h]
      exact bad (by
        have h' : o = 35 ∨ o = 36 ∨ o = 37 ∨ o = 38 ∨ o = 39 ∨ o = 42 := by omega
        rcases h' with h | h | h | h | h | h <;> rw [h] <;> rfl)
  | [m1, m2, m3], ⟨q, r1, q2, r2, q3, r3, e1⟩, h3, bad =>
    have e1' : q3 = e := e1
    subst e1'
    rw [show ex_fun o [m1, m2, m3] = if o = 39 then ex_substr m1 m2 m3 else ex_bad o [m1, m2, m3] from if_neg h40]
    by_cases h : o = 39
    · rw [if_pos h]
      exact rp_substr r1 r2 r3 (h2.trans h) (h3.trans rfl)
    · rw [if_neg h]
      exact bad (by
        have h' : o = 35 ∨ o = 36 ∨ o = 37 ∨ o = 38 ∨ o = 41 ∨ o = 42 := by omega
        rcases h' with h | h | h | h | h | h <;> rw [h] <;> rfl)
  | m1 :: m2 :: m3 :: m4 :: r, hP, h3, bad =>
    rw [show ex_fun o (m1 :: m2 :: m3 :: m4 :: r) = ex_bad o (m1 :: m2 :: m3 :: m4 :: r) from if_neg h40]
    exact bad (by
      have hl : ∀ k, k ≤ 3 → ¬ (m1 :: m2 :: m3 :: m4 :: r).length = k := fun k hk q => by
        simp only [List.length_cons] at q
        omega
      have l1 := hl 1 (by decide)
      have l2 := hl 2 (by decide)
      have l3 := hl 3 (by decide)
      rcases hd with h | h | h | h | h | h | h <;> rw [h, sp_takes] <;> simp [l1, l2, l3])
end Lists2
