/-! ===== soundness where one kind is due: NULLIF, COALESCE, CASE ===== -/
theorem kl_gen {o n : Nat} : ∀ (ks : List Int32) (i : Nat) (s e : Int32), (∀ k ∈ ks, ¬ k = 5) → ¬ s = 5 → (sp_kl o n ks i s e).1 = 0 → e = 0 ∧ ¬ (sp_kl o n ks i s e).2 = 5 ∧ (¬ s = 3 → (sp_kl o n ks i s e).2 = s) ∧ ∀ j k, ks[j]? = some k → sp_due o (i + j) n = 4 → k = 3 ∨ k = (sp_kl o n ks i s e).2 := by
  intro ks
  induction ks with
  | nil => intro i s e _ h5 h; exact ⟨h, h5, fun _ => rfl, fun j k hj => by simp at hj⟩
  | cons k ks ih =>
    intro i s e hks h5 h
    have hk5 := hks k List.mem_cons_self
    have hks' : ∀ x ∈ ks, ¬ x = 5 := fun x hx => hks x (List.mem_cons_of_mem _ hx)
    by_cases hd : sp_due o i n = 4
    · have e1 : sp_kl o n (k :: ks) i s e = sp_kl o n ks (i + 1) (if s = 3 then k else s) (if sp_fits k s then e else 1) := if_pos hd
      rw [e1] at h ⊢
      have hs' : ¬ (if s = 3 then k else s) = 5 := by
        split
        · exact hk5
        · exact h5
      obtain ⟨a, b, c, d⟩ := ih _ _ _ hks' hs' h
      by_cases hf : sp_fits k s
      · rw [if_pos hf] at a
        refine ⟨a, b, fun hs => ?_, fun j x hj hdj => ?_⟩
        · rw [if_neg hs] at c ⊢
          exact c hs
        · cases j with
          | zero =>
            have hx : k = x := by simpa using hj
            subst hx
            by_cases hk3 : k = 3
            · exact Or.inl hk3
            · right
              have hsk : (if s = 3 then k else s) = k := by
                by_cases hs : s = 3
                · rw [if_pos hs]
                · rw [if_neg hs]
                  rcases hf with q | q | q | q
                  · exact q.symm
                  · exact absurd q hk3
                  · exact absurd q hs
                  · exact absurd q h5
              rw [hsk] at c ⊢
              exact (c hk3).symm
          | succ j => exact d j x (by simpa using hj) (by rw [show i + 1 + j = i + (j + 1) by omega]; exact hdj)
      · rw [if_neg hf] at a
        exact absurd a (by decide)
    · have e1 : sp_kl o n (k :: ks) i s e = sp_kl o n ks (i + 1) s (if sp_fits k (sp_due o i n) then e else 1) := if_neg hd
      rw [e1] at h ⊢
      obtain ⟨a, b, c, d⟩ := ih _ _ _ hks' h5 h
      by_cases hf : sp_fits k (sp_due o i n)
      · rw [if_pos hf] at a
        refine ⟨a, b, c, fun j x hj hdj => ?_⟩
        cases j with
        | zero => exact absurd hdj hd
        | succ j => exact d j x (by simpa using hj) (by rw [show i + 1 + j = i + (j + 1) by omega]; exact hdj)
      · rw [if_neg hf] at a
        exact absurd a (by decide)
theorem ty_mv {k F : Int32} {v : Va} (h : ty_ok k v) (hk : k = 3 ∨ k = F) : ty_ok F v := by
  refine ⟨h.1, h.2.1, ?_⟩
  rcases h.2.2 with q | q
  · exact Or.inl q
  · rcases hk with r | r
    · exact Or.inl (q.trans r)
    · exact Or.inr (q.trans r)
/-- no kind is ANY -/
def EX_K (m : Ex) : Prop := ∀ kn R, rg_ok kn R → (m.1 kn).1 = 0 → ¬ (m.1 kn).2 = 5
theorem kc_all {o : Nat} {ks : List Int32} {k : Int32} (h : sp_kc o ks = (0, k)) (ho : op_result.getD o 0 = 4) (hks : ∀ x ∈ ks, ¬ x = 5) : ¬ k = 5 ∧ ∀ j x, ks[j]? = some x → sp_due o j ks.length = 4 → x = 3 ∨ x = k := by
  unfold sp_kc at h
  rw [if_pos ho] at h
  by_cases ht : sp_takes o ks.length = true
  · rw [if_pos ht] at h
    have h1 : (sp_kl o ks.length ks 0 3 0).1 = 0 := congrArg Prod.fst h
    have h2 : (sp_kl o ks.length ks 0 3 0).2 = k := congrArg Prod.snd h
    obtain ⟨-, b, -, d⟩ := kl_gen ks 0 3 0 hks (by decide) h1
    rw [h2] at b d
    exact ⟨b, fun j x hj hd => d j x hj (by rw [Nat.zero_add]; exact hd)⟩
  · rw [if_neg ht] at h
    exact absurd (show (2 : Int32) = 0 from congrArg Prod.fst h) (by decide)
theorem es_nullif {m1 m2 : Ex} (s1 : EX_S m1) (x1 : EX_K m1) (x2 : EX_K m2) : EX_S (ex_nullif m1 m2) := fun kn R k hr hk he => by
  obtain ⟨k1, k2, k3⟩ := ck2_ok (o := 41) (m1 := m1) (m2 := m2) (kn := kn) (congrArg Prod.fst hk)
  obtain ⟨-, hall⟩ := kc_all (k3.symm.trans hk) (by decide) (fun x hx => by
    rcases List.mem_cons.mp hx with rfl | hx
    · exact x1 kn R hr k1
    · rcases List.mem_cons.mp hx with rfl | hx
      · exact x2 kn R hr k2
      · exact absurd hx List.not_mem_nil)
  by_cases e1 : (m1.2.1 R).1 = 0
  · by_cases e2 : (m2.2.1 R).1 = 0
    · rw [show (ex_nullif m1 m2).2.1 R = (0, v_nullif (m1.2.1 R).2 (m2.2.1 R).2) from (if_neg (fun q => q e1)).trans (if_neg (fun q => q e2))]
      have t1 := s1 kn R _ hr (pr0 k1) e1
      show ty_ok k (v_nullif _ _)
      unfold v_nullif
      split
      · exact ty_null k
      · exact ty_mv t1 (hall 0 _ rfl (show sp_due 41 0 2 = 4 by decide))
    · rw [show (ex_nullif m1 m2).2.1 R = m2.2.1 R from (if_neg (fun q => q e1)).trans (if_pos e2)] at he
      exact absurd he e2
  · rw [show (ex_nullif m1 m2).2.1 R = m1.2.1 R from if_pos e1] at he
    exact absurd he e1
theorem ev_co_ty {R : Nat → Va} {k : Int32} {kn : Nat → Int32} (hr : rg_ok kn R) : ∀ (ms : List Ex), (∀ m ∈ ms, EX_S m ∧ (m.1 kn).1 = 0 ∧ ((m.1 kn).2 = 3 ∨ (m.1 kn).2 = k)) → (ev_co ms R).1 = 0 → ty_ok k (ev_co ms R).2 := by
  intro ms
  induction ms with
  | nil => intro _ _; exact ty_null k
  | cons m ms ih =>
    intro h he
    have e : ev_co (m :: ms) R = if ¬ (m.2.1 R).1 = 0 then m.2.1 R else if (m.2.1 R).2.1 = 3 then ev_co ms R else m.2.1 R := rfl
    rw [e] at he ⊢
    by_cases e1 : (m.2.1 R).1 = 0
    · rw [if_neg (fun q => q e1)] at he ⊢
      by_cases hn : (m.2.1 R).2.1 = 3
      · rw [if_pos hn] at he ⊢
        exact ih (fun x hx => h x (List.mem_cons_of_mem _ hx)) he
      · rw [if_neg hn]
        obtain ⟨sm, km, fm⟩ := h m List.mem_cons_self
        exact ty_mv (sm kn R _ hr (pr0 km) e1) fm
    · rw [if_pos e1] at he
      exact absurd he e1
theorem es_co {ms : List Ex} (hs : ∀ m ∈ ms, EX_S m) (hx : ∀ m ∈ ms, EX_K m) : EX_S (ex_co ms) := fun kn R k hr hk he => by
  obtain ⟨k1, k2⟩ := ckn_ok (o := 40) (ms := ms) (kn := kn) (congrArg Prod.fst hk)
  obtain ⟨-, hall⟩ := kc_all (k2.symm.trans hk) (by decide) (fun x hx9 => by
    obtain ⟨m, hm, rfl⟩ := List.mem_map.mp hx9
    exact hx m hm kn R hr (k1 m hm))
  refine ev_co_ty hr ms (fun m hm => ⟨hs m hm, k1 m hm, ?_⟩) he
  obtain ⟨j, hj⟩ := List.getElem?_of_mem hm
  exact hall j _ (by rw [List.getElem?_map, hj]; rfl) (due_same (Or.inr rfl) _ _)
theorem ev_ca_ty {R : Nat → Va} {k : Int32} {kn : Nat → Int32} {me : Ex} {n : Nat} (hr : rg_ok kn R) : ∀ (cs : List (Ex × Ex)) (i : Nat), i % 2 = 0 → n = i + (ca_parts me cs).length → (∀ m ∈ ca_parts me cs, EX_S m ∧ (m.1 kn).1 = 0) → (∀ j x, ((ca_parts me cs).map (fun m => (m.1 kn).2))[j]? = some x → sp_due 34 (i + j) n = 4 → x = 3 ∨ x = k) → (ev_ca me cs R).1 = 0 → ty_ok k (ev_ca me cs R).2 := by
  intro cs
  induction cs with
  | nil =>
    intro i hi hn h hall he
    obtain ⟨sm, km⟩ := h me List.mem_cons_self
    have hn' : n = i + 1 := hn
    exact ty_mv (sm kn R _ hr (pr0 km) he) (hall 0 _ rfl (by rw [Nat.add_zero, sp_due, if_pos rfl, if_neg (by omega)]; decide))
  | cons cr cs ih =>
    obtain ⟨c, r⟩ := cr
    intro i hi hn h hall he
    have hn' : n = i + ((ca_parts me cs).length + 1 + 1) := hn
    have e : ev_ca me ((c, r) :: cs) R = if ¬ (c.2.1 R).1 = 0 then c.2.1 R else if v_tr 1 (c.2.1 R).2 then r.2.1 R else ev_ca me cs R := rfl
    rw [e] at he ⊢
    by_cases e1 : (c.2.1 R).1 = 0
    · rw [if_neg (fun q => q e1)] at he ⊢
      by_cases hv : v_tr 1 (c.2.1 R).2
      · rw [if_pos hv] at he ⊢
        obtain ⟨sm, km⟩ := h r (List.mem_cons_of_mem _ List.mem_cons_self)
        exact ty_mv (sm kn R _ hr (pr0 km) he) (hall 1 _ rfl (by rw [sp_due, if_pos rfl, if_neg (by omega)]; decide))
      · rw [if_neg hv] at he ⊢
        refine ih (i + 2) (by omega) (by omega) (fun m hm => h m (List.mem_cons_of_mem _ (List.mem_cons_of_mem _ hm))) (fun j x hj hd => hall (j + 2) x hj ?_) he
        rw [show i + (j + 2) = i + 2 + j by omega]
        exact hd
    · rw [if_pos e1] at he
      exact absurd he e1
theorem es_case {cs : List (Ex × Ex)} {me : Ex} (hs : ∀ m ∈ ca_parts me cs, EX_S m) (hx : ∀ m ∈ ca_parts me cs, EX_K m) : EX_S (ex_case cs me) := fun kn R k hr hk he => by
  obtain ⟨k1, k2⟩ := ckn_ok (o := 34) (ms := ca_parts me cs) (kn := kn) (congrArg Prod.fst hk)
  obtain ⟨-, hall⟩ := kc_all (k2.symm.trans hk) (by decide) (fun x hx9 => by
    obtain ⟨m, hm, rfl⟩ := List.mem_map.mp hx9
    exact hx m hm kn R hr (k1 m hm))
  rw [List.length_map] at hall
  exact ev_ca_ty hr cs 0 rfl (Nat.zero_add _).symm (fun m hm => ⟨hs m hm, k1 m hm⟩) (fun j x hj hd => hall j x hj (by rw [Nat.zero_add] at hd; exact hd)) he
theorem kc_k {o : Nat} {ks : List Int32} (h : (sp_kc o ks).1 = 0) (ho : ¬ op_result.getD o 0 = 5) (hks : ∀ x ∈ ks, ¬ x = 5) : ¬ (sp_kc o ks).2 = 5 := by
  by_cases h4 : op_result.getD o 0 = 4
  · exact (kc_all (pr0 h) h4 hks).1
  · rw [kc_res (pr0 h) h4]
    exact ho
theorem ek_1 {o : Nat} {m : Ex} (x : EX_K m) (ho : ¬ op_result.getD o 0 = 5) {ev : (Nat → Va) → Int32 × Va} {n : Nat} : EX_K (ck1 o m, ev, n) := fun kn R hr hk => by
  obtain ⟨k1, k2⟩ := ck1_ok hk
  have k2' : ck1 o m kn = sp_kc o [(m.1 kn).2] := k2
  show ¬ (ck1 o m kn).2 = 5
  have hk' : (ck1 o m kn).1 = 0 := hk
  rw [k2'] at hk' ⊢
  exact kc_k hk' ho (fun y hy => by rw [List.mem_singleton.mp hy]; exact x kn R hr k1)
theorem ek_2 {o : Nat} {m1 m2 : Ex} (x1 : EX_K m1) (x2 : EX_K m2) (ho : ¬ op_result.getD o 0 = 5) {ev : (Nat → Va) → Int32 × Va} {n : Nat} : EX_K (ck2 o m1 m2, ev, n) := fun kn R hr hk => by
  obtain ⟨k1, k2, k3⟩ := ck2_ok hk
  have hk' : (ck2 o m1 m2 kn).1 = 0 := hk
  show ¬ (ck2 o m1 m2 kn).2 = 5
  rw [k3] at hk' ⊢
  refine kc_k hk' ho (fun y hy => ?_)
  rcases List.mem_cons.mp hy with rfl | hy
  · exact x1 kn R hr k1
  · rw [List.mem_singleton.mp hy]; exact x2 kn R hr k2
theorem ek_3 {o : Nat} {m1 m2 m3 : Ex} (x1 : EX_K m1) (x2 : EX_K m2) (x3 : EX_K m3) (ho : ¬ op_result.getD o 0 = 5) {ev : (Nat → Va) → Int32 × Va} {n : Nat} : EX_K (ck3 o m1 m2 m3, ev, n) := fun kn R hr hk => by
  obtain ⟨k1, k2, k3, k4⟩ := ck3_ok hk
  have hk' : (ck3 o m1 m2 m3 kn).1 = 0 := hk
  show ¬ (ck3 o m1 m2 m3 kn).2 = 5
  rw [k4] at hk' ⊢
  refine kc_k hk' ho (fun y hy => ?_)
  rcases List.mem_cons.mp hy with rfl | hy
  · exact x1 kn R hr k1
  · rcases List.mem_cons.mp hy with rfl | hy
    · exact x2 kn R hr k2
    · rw [List.mem_singleton.mp hy]; exact x3 kn R hr k3
theorem ek_n {o : Nat} {ms : List Ex} (x : ∀ m ∈ ms, EX_K m) (ho : ¬ op_result.getD o 0 = 5) {ev : (Nat → Va) → Int32 × Va} {n : Nat} : EX_K (ckn o ms, ev, n) := fun kn R hr hk => by
  obtain ⟨k1, k2⟩ := ckn_ok hk
  have hk' : (ckn o ms kn).1 = 0 := hk
  show ¬ (ckn o ms kn).2 = 5
  rw [k2] at hk' ⊢
  refine kc_k hk' ho (fun y hy => ?_)
  obtain ⟨m, hm, rfl⟩ := List.mem_map.mp hy
  exact x m hm kn R hr (k1 m hm)
theorem ek_int (n : Int64) : EX_K (ex_int n) := fun _ _ _ _ => show ¬ (0 : Int32) = 5 by decide
theorem ek_bool (n : Int64) : EX_K (ex_bool n) := fun _ _ _ _ => show ¬ (2 : Int32) = 5 by decide
theorem ek_null : EX_K ex_null := fun _ _ _ _ => show ¬ (3 : Int32) = 5 by decide
theorem ek_text (c : List Int32) : EX_K (ex_text c) := fun _ _ _ _ => show ¬ (1 : Int32) = 5 by decide
theorem ek_reg {r : Nat} (h : r < 8) : EX_K (ex_reg r) := fun _ _ hr _ => (hr r h).2
