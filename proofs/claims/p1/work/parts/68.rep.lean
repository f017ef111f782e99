/-! ===== a stretch of steps stands for m: in the working out and in the checking ===== -/
def Rep (m : Ex) (a b c : Nat) (ko : Nat → Nat) (ar : Nat → Int64) (ch : Nat → Int32) : Prop := a < b ∧ RepW m a b 0 c ko ar ch ∧ RepK m a b ko ar ∧ EX_S m ∧ EX_K m
theorem RepW.wide {m : Ex} {a b c0 c1 c2 : Nat} {ko0 : Nat → Nat} {ar0 : Nat → Int64} {ch0 : Nat → Int32} (h : RepW m a b c0 c1 ko0 ar0 ch0) (h1 : c1 ≤ c2) : RepW m a b c0 c2 ko0 ar0 ch0 :=
  fun z l d σ ad Q op sg aO aS mO mS ko w len S t kn hp hb hj hc => h z l d σ ad Q op sg aO aS mO mS ko w len S t kn hp hb hj (fun j a1 a2 => hc j a1 (by omega))
theorem Rep.mono {m : Ex} {a b c c' : Nat} {ko ko' : Nat → Nat} {ar ar' : Nat → Int64} {ch ch' : Nat → Int32} (h : Rep m a b c ko ar ch) (h1 : ∀ j, a ≤ j → j < b → ko' j = ko j ∧ ar' j = ar j) (h2 : ∀ j, j < c → ch' j = ch j) (h3 : c ≤ c') : Rep m a b c' ko' ar' ch' :=
  ⟨h.1, (h.2.1.mono h1 (fun j _ a2 => h2 j a2)).wide h3, h.2.2.1.mono h1, h.2.2.2⟩
section Reps
variable {m m1 m2 m3 : Ex} {a b c e n : Nat} {ko : Nat → Nat} {ar : Nat → Int64} {ch : Nat → Int32}
theorem rp_int {x : Int64} (h1 : ko a = 1) (h2 : ar a = x) (h3 : -9007199254740991 ≤ x.toInt) (h4 : x.toInt ≤ 9007199254740991) : Rep (ex_int x) a (a + 1) n ko ar ch :=
  ⟨Nat.lt_succ_self _, rw_int h1 h2, rk_int h1, es_int h3 h4, ek_int x⟩
theorem rp_bool {x : Int64} (h1 : ko a = 3) (h2 : ar a = x) (h3 : x = 0 ∨ x = 1) : Rep (ex_bool x) a (a + 1) n ko ar ch :=
  ⟨Nat.lt_succ_self _, rw_bool h3 h1 h2, rk_bool h1, es_bool h3, ek_bool x⟩
theorem rp_null (h1 : ko a = 4) : Rep ex_null a (a + 1) n ko ar ch :=
  ⟨Nat.lt_succ_self _, rw_null h1, rk_null h1, es_null, ek_null⟩
theorem rp_reg {r : Nat} (hr : r < 8) (h1 : ko a = 5) (h2 : ar a = lN r) : Rep (ex_reg r) a (a + 1) n ko ar ch :=
  ⟨Nat.lt_succ_self _, rw_reg hr h1 h2, rk_reg hr h1 h2, es_reg hr, ek_reg hr⟩
theorem rp_text {C : List Int32} {hd : Nat} (hC : C.length ≤ 40) (hch : ∀ x ∈ C, ch_ok x) (hc1 : hd + 1 + C.length ≤ n) (hc2 : n ≤ 1000) (h1 : ko a = 2) (h2 : ar a = lN hd) (h3 : ch hd = nI C.length) (h4 : ∀ i, i < C.length → ch (hd + 1 + i) = C.getD i 0) : Rep (ex_text C) a (a + 1) n ko ar ch :=
  ⟨Nat.lt_succ_self _, rw_text hC hch (Nat.zero_le _) hc1 hc2 h1 h2 h3 h4, rk_text h1, es_text hC hch, ek_text C⟩
theorem rl_1 (r : RepK m a b ko ar) (h : a < b) : RepL [m] a b ko ar := rl_add rl_nil r h
theorem rp_2 {o : Nat} (ho : 20 ≤ o ∧ o ≤ 32) (r1 : Rep m1 a b n ko ar ch) (r2 : Rep m2 b c n ko ar ch) (h1 : ko c = o) (h2 : ar c = 2) : Rep (ex_2 o m1 m2) a (c + 1) n ko ar ch := by
  obtain ⟨a1, w1, k1, s1, x1⟩ := r1
  obtain ⟨a2, w2, k2, s2, x2⟩ := r2
  have hd : o = 20 ∨ o = 21 ∨ o = 22 ∨ o = 23 ∨ o = 24 ∨ o = 25 ∨ o = 26 ∨ o = 27 ∨ o = 28 ∨ o = 29 ∨ o = 30 ∨ o = 31 ∨ o = 32 := by omega
  have fct : ¬ op_closing.getD o 0 = 0 ∧ ((op_result.getD o 0 = 2 ∨ op_result.getD o 0 = 0) ∨ o = 27) ∧ ¬ op_result.getD o 0 = 5 := by
    rcases hd with h | h | h | h | h | h | h | h | h | h | h | h | h <;> rw [h] <;> decide
  refine ⟨by omega, ?_, rk_close (ms := [m1, m2]) (rl_add (rl_1 k1 a1) k2 a2) (by omega) fct.1 h1 (h2.trans rfl) (ke_2 o m1 m2), es_2 s1 s2 fct.2.1, ek_2 x1 x2 fct.2.2⟩
  rcases hd with h | h | h | h | h | h | h | h | h | h | h | h | h
  · exact rw_cmp (by omega) s1 s2 w1 w2 (by omega) (by omega) h1 h2
  · exact rw_cmp (by omega) s1 s2 w1 w2 (by omega) (by omega) h1 h2
  · exact rw_cmp (by omega) s1 s2 w1 w2 (by omega) (by omega) h1 h2
  · exact rw_cmp (by omega) s1 s2 w1 w2 (by omega) (by omega) h1 h2
  · exact rw_cmp (by omega) s1 s2 w1 w2 (by omega) (by omega) h1 h2
  · exact rw_cmp (by omega) s1 s2 w1 w2 (by omega) (by omega) h1 h2
  · subst h; exact rw_like s1 s2 w1 w2 (by omega) (by omega) h1 h2
  · subst h; exact rw_join s1 s2 w1 w2 (by omega) (by omega) h1 h2
  · exact rw_n2 (by omega) w1 w2 (by omega) (by omega) h1 h2
  · exact rw_n2 (by omega) w1 w2 (by omega) (by omega) h1 h2
  · exact rw_n2 (by omega) w1 w2 (by omega) (by omega) h1 h2
  · exact rw_n2 (by omega) w1 w2 (by omega) (by omega) h1 h2
  · exact rw_n2 (by omega) w1 w2 (by omega) (by omega) h1 h2
theorem rp_1 {o : Nat} (ho : o = 16 ∨ o = 33 ∨ o = 35 ∨ o = 36 ∨ o = 37 ∨ o = 38) (r : Rep m a b n ko ar ch) (h1 : ko b = o) (h2 : ar b = 1) : Rep (ex_1 o m) a (b + 1) n ko ar ch := by
  obtain ⟨a1, w1, k1, s1, x1⟩ := r
  have fct : ¬ op_closing.getD o 0 = 0 ∧ ((op_result.getD o 0 = 2 ∨ op_result.getD o 0 = 0) ∨ o = 37 ∨ o = 38) ∧ ¬ op_result.getD o 0 = 5 := by
    rcases ho with h | h | h | h | h | h <;> rw [h] <;> decide
  refine ⟨by omega, ?_, rk_close (ms := [m]) (rl_1 k1 a1) (by omega) fct.1 h1 (h2.trans rfl) (ke_1 o m), es_1 s1 fct.2.1, ek_1 x1 fct.2.2⟩
  rcases ho with h | h | h | h | h | h
  · subst h; exact rw_not w1 (by omega) h1 h2
  · exact rw_n1 (by omega) w1 (by omega) h1 h2
  · exact rw_n1 (by omega) w1 (by omega) h1 h2
  · exact rw_n1 (by omega) w1 (by omega) h1 h2
  · exact rw_x1 (by omega) s1 w1 (by omega) h1 h2
  · exact rw_x1 (by omega) s1 w1 (by omega) h1 h2
theorem rp_isnull (r : Rep m a b n ko ar ch) (h1 : ko b = 17) (h2 : ar b = 1) : Rep (ex_isnull m) a (b + 1) n ko ar ch := by
  obtain ⟨a1, w1, k1, s1, x1⟩ := r
  exact ⟨by omega, rw_isnull w1 (by omega) h1, rk_close (ms := [m]) (rl_1 k1 a1) (by decide) (by decide) h1 (h2.trans rfl) (ke_1 17 m), es_isnull, ek_1 x1 (by decide)⟩
theorem rp_or (r1 : Rep m1 a b n ko ar ch) (r2 : Rep m2 (b + 1) c n ko ar ch) (hc : c ≤ 1000) (h1 : ko b = 6) (h2 : ar b = lN c) (h3 : ko c = 14) (h4 : ar c = 2) : Rep (ex_or m1 m2) a (c + 1) n ko ar ch := by
  obtain ⟨a1, w1, k1, s1, x1⟩ := r1
  obtain ⟨a2, w2, k2, s2, x2⟩ := r2
  exact ⟨by omega, rw_or w1 w2 (by omega) (by omega) hc h1 h2 h3, rk_close (ms := [m1, m2]) (rl_add (rl_pass (rl_1 k1 a1) h1 (by decide) (by decide)) k2 a2) (by decide) (by decide) h3 (h4.trans rfl) (ke_2 14 m1 m2), es_or s1, ek_2 x1 x2 (by decide)⟩
theorem rp_and (r1 : Rep m1 a b n ko ar ch) (r2 : Rep m2 (b + 1) c n ko ar ch) (hc : c ≤ 1000) (h1 : ko b = 7) (h2 : ar b = lN c) (h3 : ko c = 15) (h4 : ar c = 2) : Rep (ex_and m1 m2) a (c + 1) n ko ar ch := by
  obtain ⟨a1, w1, k1, s1, x1⟩ := r1
  obtain ⟨a2, w2, k2, s2, x2⟩ := r2
  exact ⟨by omega, rw_and w1 w2 (by omega) (by omega) hc h1 h2 h3, rk_close (ms := [m1, m2]) (rl_add (rl_pass (rl_1 k1 a1) h1 (by decide) (by decide)) k2 a2) (by decide) (by decide) h3 (h4.trans rfl) (ke_2 15 m1 m2), es_and s1, ek_2 x1 x2 (by decide)⟩
theorem rp_between (r1 : Rep m1 a b n ko ar ch) (r2 : Rep m2 b c n ko ar ch) (r3 : Rep m3 (c + 1) e n ko ar ch) (he : e ≤ 1000) (h1 : ko c = 10) (h2 : ar c = lN e) (h3 : ko e = 19) (h4 : ar e = 3) : Rep (ex_between m1 m2 m3) a (e + 1) n ko ar ch := by
  obtain ⟨a1, w1, k1, s1, x1⟩ := r1
  obtain ⟨a2, w2, k2, s2, x2⟩ := r2
  obtain ⟨a3, w3, k3, s3, x3⟩ := r3
  exact ⟨by omega, rw_between s1 s2 s3 w1 w2 w3 (by omega) (by omega) (by omega) he h1 h2 h3, rk_close (ms := [m1, m2, m3]) (rl_add (rl_pass (rl_add (rl_1 k1 a1) k2 a2) h1 (by decide) (by decide)) k3 a3) (by decide) (by decide) h3 (h4.trans rfl) (ke_3 19 m1 m2 m3), es_between, ek_3 x1 x2 x3 (by decide)⟩
theorem rp_substr (r1 : Rep m1 a b n ko ar ch) (r2 : Rep m2 b c n ko ar ch) (r3 : Rep m3 c e n ko ar ch) (h3 : ko e = 39) (h4 : ar e = 3) : Rep (ex_substr m1 m2 m3) a (e + 1) n ko ar ch := by
  obtain ⟨a1, w1, k1, s1, x1⟩ := r1
  obtain ⟨a2, w2, k2, s2, x2⟩ := r2
  obtain ⟨a3, w3, k3, s3, x3⟩ := r3
  exact ⟨by omega, rw_substr s1 s2 s3 w1 w2 w3 (by omega) (by omega) (by omega) h3 h4, rk_close (ms := [m1, m2, m3]) (rl_add (rl_add (rl_1 k1 a1) k2 a2) k3 a3) (by decide) (by decide) h3 (h4.trans rfl) (ke_3 39 m1 m2 m3), es_substr s1, ek_3 x1 x2 x3 (by decide)⟩
theorem rp_nullif (r1 : Rep m1 a b n ko ar ch) (r2 : Rep m2 b c n ko ar ch) (h3 : ko c = 41) (h4 : ar c = 2) : Rep (ex_nullif m1 m2) a (c + 1) n ko ar ch := by
  obtain ⟨a1, w1, k1, s1, x1⟩ := r1
  obtain ⟨a2, w2, k2, s2, x2⟩ := r2
  exact ⟨by omega, rw_nullif s1 s2 w1 w2 (by omega) (by omega) h3, rk_close (ms := [m1, m2]) (rl_add (rl_1 k1 a1) k2 a2) (by decide) (by decide) h3 (h4.trans rfl) (ke_2 41 m1 m2), es_nullif s1 x1 x2, ek_2 x1 x2 (by decide)⟩
end Reps
/-! parts of a list: with a step behind each, or with none -/
section Lists
variable {o c : Nat} {ko : Nat → Nat} {ar : Nat → Int64} {ch : Nat → Int32}
def PS (o c : Nat) (ko : Nat → Nat) (ar : Nat → Int64) (ch : Nat → Int32) : List (Ex × Nat) → Nat → Nat → Prop
  | [], p, e => p = e
  | (m, q) :: r, p, e => Rep m p q c ko ar ch ∧ ko q = o ∧ PS o c ko ar ch r (q + 1) e
def PN (c : Nat) (ko : Nat → Nat) (ar : Nat → Int64) (ch : Nat → Int32) : List Ex → Nat → Nat → Prop
  | [], p, e => p = e
  | m :: r, p, e => ∃ q, Rep m p q c ko ar ch ∧ PN c ko ar ch r q e
def PCa (c : Nat) (ko : Nat → Nat) (ar : Nat → Int64) (ch : Nat → Int32) : List (Ex × Nat × Ex × Nat) → Nat → Nat → Prop
  | [], p, e => p = e
  | (m1, q, m2, u) :: r, p, e => Rep m1 p q c ko ar ch ∧ ko q = 11 ∧ ar q = lN u ∧ Rep m2 (q + 1) u c ko ar ch ∧ ko u = 12 ∧ PCa c ko ar ch r (u + 1) e
theorem ps_add : ∀ {ps : List (Ex × Nat)} {p e : Nat} {m : Ex} {q : Nat}, PS o c ko ar ch ps p e → Rep m e q c ko ar ch → ko q = o → PS o c ko ar ch (ps ++ [(m, q)]) p (q + 1)
  | [], p, e, m, q, h, r, hk => by
    have h' : p = e := h
    subst h'
    exact ⟨r, hk, rfl⟩
  | (m', q') :: ps, p, e, m, q, h, r, hk => ⟨h.1, h.2.1, ps_add h.2.2 r hk⟩
theorem pn_add : ∀ {ms : List Ex} {p e : Nat} {m : Ex} {q : Nat}, PN c ko ar ch ms p e → Rep m e q c ko ar ch → PN c ko ar ch (ms ++ [m]) p q
  | [], p, e, m, q, h, r => by
    have h' : p = e := h
    subst h'
    exact ⟨q, r, rfl⟩
  | m' :: ms, p, e, m, q, ⟨q', h1, h2⟩, r => ⟨q', h1, pn_add h2 r⟩
theorem pc_add : ∀ {ps : List (Ex × Nat × Ex × Nat)} {p e : Nat} {m1 m2 : Ex} {q u : Nat}, PCa c ko ar ch ps p e → Rep m1 e q c ko ar ch → ko q = 11 → ar q = lN u → Rep m2 (q + 1) u c ko ar ch → ko u = 12 → PCa c ko ar ch (ps ++ [(m1, q, m2, u)]) p (u + 1)
  | [], p, e, m1, m2, q, u, h, r, hk, ha, r2, hk2 => by
    have h' : p = e := h
    subst h'
    exact ⟨r, hk, ha, r2, hk2, rfl⟩
  | (_, _, _, _) :: ps, p, e, m1, m2, q, u, h, r, hk, ha, r2, hk2 => ⟨h.1, h.2.1, h.2.2.1, h.2.2.2.1, h.2.2.2.2.1, pc_add h.2.2.2.2.2 r hk ha r2 hk2⟩
theorem PS.le : ∀ {ps : List (Ex × Nat)} {p e : Nat}, PS o c ko ar ch ps p e → p ≤ e
  | [], p, e, h => Nat.le_of_eq h
  | (m, q) :: r, p, e, h => by
    have := PS.le h.2.2
    have := h.1.1
    omega
theorem PN.le : ∀ {ms : List Ex} {p e : Nat}, PN c ko ar ch ms p e → p ≤ e
  | [], p, e, h => Nat.le_of_eq h
  | m :: r, p, e, ⟨q, h1, h2⟩ => by
    have := PN.le h2
    have := h1.1
    omega
theorem PCa.le : ∀ {ps : List (Ex × Nat × Ex × Nat)} {p e : Nat}, PCa c ko ar ch ps p e → p ≤ e
  | [], p, e, h => Nat.le_of_eq h
  | (m1, q, m2, u) :: r, p, e, h => by
    have := PCa.le h.2.2.2.2.2
    have := h.1.1
    have := h.2.2.2.1.1
    omega
theorem ps_lo : ∀ {ps : List (Ex × Nat)} {p e : Nat}, PS o c ko ar ch ps p e → ∀ j ∈ ps.map Prod.snd, p ≤ j ∧ j < e
  | [], p, e, h, j, hj => absurd hj List.not_mem_nil
  | (m, q) :: r, p, e, h, j, hj => by
    have := h.1.1
    have := PS.le h.2.2
    rcases List.mem_cons.mp hj with hm | hm
    · have : j = q := hm
      omega
    · have := ps_lo h.2.2 j hm
      omega
/-- the rows have changed above e, and at the steps behind the parts -/
theorem PS.mono {c' : Nat} {ko' : Nat → Nat} {ar' : Nat → Int64} {ch' : Nat → Int32} (h2 : ∀ j, j < c → ch' j = ch j) (h3 : c ≤ c') : ∀ {ps : List (Ex × Nat)} {p e : Nat}, PS o c ko ar ch ps p e → (∀ j, p ≤ j → j < e → ko' j = ko j) → (∀ j, p ≤ j → j < e → j ∉ ps.map Prod.snd → ar' j = ar j) → PS o c' ko' ar' ch' ps p e
  | [], p, e, h, _, _ => h
  | (m, q) :: r, p, e, h, k1, k2 => by
    have hle := PS.le h.2.2
    have hq := h.1.1
    have nin : ∀ j, j ≤ q → j ∉ r.map Prod.snd := fun j hj hm => by
      have := ps_lo h.2.2 j hm
      omega
    refine ⟨h.1.mono (fun j a1 a2 => ⟨k1 j a1 (by omega), k2 j a1 (by omega) (fun hm => ?_)⟩) h2 h3, (k1 q (by omega) (by omega)).trans h.2.1, PS.mono h2 h3 h.2.2 (fun j a1 a2 => k1 j (by omega) a2) (fun j a1 a2 hn => k2 j (by omega) a2 (fun hm => ?_))⟩
    · rcases List.mem_cons.mp hm with hm | hm
      · have : j = q := hm
        omega
      · exact nin j (by omega) hm
    · rcases List.mem_cons.mp hm with hm | hm
      · have : j = q := hm
        omega
      · exact hn hm
end Lists
