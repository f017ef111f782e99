/-! ===== nodes of many parts: their checking ===== -/
/-- the parts of a node, for the working out -/
def PE (lo nlo nhi hl hh : Nat) (σ0 : Hp) (am : Nat → Nat) (h : Nat) : List (Ex × Nat) → Nat → Prop
  | [], _ => True
  | (m, x) :: r, kv => ∃ a c k1 k2, Sb nlo nhi hl hh a c 0 0 ∧ RepN m lo a c σ0 am x h k1 ∧ PE lo nlo nhi hl hh σ0 am h r k2 ∧ k1 + k2 ≤ kv
section MMany
variable {lo nlo nhi hl hh : Nat} {σ : Hp} {am : Nat → Nat} {h n b : Nat}
theorem pr_sb {a c : Nat} (h1 : nlo ≤ a) (h2 : c ≤ nhi) (h3 : c ≤ hl ∨ hh ≤ a) : Sb nlo nhi hl hh a c 0 0 := ⟨h2, fun r q => ⟨by have := q.1; omega, by have := q.2.1; omega, fun q9 => by have := q.1; have := q.2.1; omega⟩⟩
theorem PR.pe : ∀ {rs : List (Ex × Nat)} {u v kv : Nat}, PR lo σ am h n b hl hh rs u v kv → nlo ≤ u → v ≤ nhi → PE lo nlo nhi hl hh σ am h rs kv
  | [], _, _, _, _, _, _ => trivial
  | (_, _) :: _, _, _, _, ⟨a', c', k1', k2', q1, qR, q2, q3, qP, q4, q5⟩, h1, h2 => ⟨a', c', k1', k2', pr_sb (by omega) (by have := PR.le qP; omega) q5, qR, PR.pe qP (by have := qR.2.1; have := qR.2.2.1; omega) h2, q4⟩
theorem PR.pk : ∀ {rs : List (Ex × Nat)} {u v kv : Nat}, PR lo σ am h n b hl hh rs u v kv → nlo ≤ u → v ≤ nhi → PK lo nlo nhi hl hh σ am h rs u
  | [], _, _, _, _, _, _ => trivial
  | (_, _) :: _, _, _, _, ⟨a', c', k1', k2', q1, qR, q2, q3, qP, q4, q5⟩, h1, h2 => ⟨a', c', 0, 0, q1, ⟨qR.2.1, qR.2.2.1, qR.2.2.2.2.2.2.2⟩, pr_sb (by omega) (by have := PR.le qP; omega) q5, qR.2.2.2.1, qR.2.2.2.2.2.1, PR.pk qP (by have := qR.2.1; have := qR.2.2.1; omega) h2⟩
theorem PE.ex : ∀ {rs : List (Ex × Nat)} {kv : Nat}, PE lo nlo nhi hl hh σ am h rs kv → ∀ m ∈ rs.map Prod.fst, EX_S m ∧ EX_K m
  | [], _, _, m, hm => absurd hm List.not_mem_nil
  | (m9, _) :: rs, _, ⟨a, c, k1, k2, s, r, q, e⟩, m, hm => by
    rcases List.mem_cons.mp hm with e9 | e9
    · rw [e9]; exact r.2.2.2.2.1
    · exact PE.ex q m e9
variable {z : State} {cap u kv : Nat} {op kd : Int32} {rs : List (Ex × Nat)}
theorem NB.rg (hN : NB z σ am lo h n b hl hh op kd rs cap u kv) : Rg u σ.nx hl hh n ∧ Rg u σ.nx hl hh b := by
  obtain ⟨h1, h2, h3, h4, h5, h6, h7, h9, h8⟩ := hN
  exact ⟨⟨h9.1, h6, fun q => by omega⟩, ⟨h9.2.1, h7, fun q => by omega⟩⟩
theorem nb_rnk {m : Ex} {F : (Nat → Int32) → List Int32 → Int32 × Int32} (hN : NB z σ am lo h n b hl hh op kd rs cap u kv) (hr : rs.length ≤ 100)
    (hm : ∀ kn, (∀ r, r < 8 → k4 (kn r)) → (¬ (ckl (rs.map Prod.fst) kn).1 = 0 → (m.1 kn).1 = (ckl (rs.map Prod.fst) kn).1) ∧ ((ckl (rs.map Prod.fst) kn).1 = 0 → (m.1 kn).1 = (F kn (ckl (rs.map Prod.fst) kn).2).1 ∧ ((m.1 kn).1 = 0 → (m.1 kn).2 = (F kn (ckl (rs.map Prod.fst) kn).2).2)))
    (hT : ∀ (z : State) (l : Launch) (d : Nat) (σ1 : Hp) (w : Wd) (kn : Nat → Int32) (Q : Outcome → Hp → Prop) (ks : List Int32), KM z σ1 am w kn → z.heap.size ≤ u → Ag lo u σ.nx hl hh σ σ1 → NT σ1 n b op kd (rs.map Prod.snd) cap ks → (ckl (rs.map Prod.fst) kn) = (0, ks) → TyR z l d σ1 am w Q n (F kn ks)) : RNK m lo u σ.nx hl hh σ am n (h + 1) :=
  rnk_node hN.1 hN.rg.1 hN.rg.2 ⟨by rw [List.length_map]; exact hr, by have := hN.2.1.2; omega⟩ rfl (hN.2.2.2.2.2.2.2.2.pk (Nat.le_refl _) (Nat.le_refl _)) hm hT
end MMany
theorem ckn_hm {o : Nat} {m : Ex} {ms : List Ex} (hm : m.1 = ckn o ms) (kn : Nat → Int32) : (¬ (ckl ms kn).1 = 0 → (m.1 kn).1 = (ckl ms kn).1) ∧ ((ckl ms kn).1 = 0 → (m.1 kn).1 = (sp_kc o (ckl ms kn).2).1 ∧ ((m.1 kn).1 = 0 → (m.1 kn).2 = (sp_kc o (ckl ms kn).2).2)) := by
  rw [hm]
  refine ⟨fun q => ?_, fun q => ?_⟩
  · show (ckn o ms kn).1 = _
    rw [ckn, if_pos q]
  · have e : ckn o ms kn = sp_kc o (ckl ms kn).2 := by rw [ckn, if_neg (fun r => r q)]
    exact ⟨by rw [e], fun _ => by rw [e]⟩
theorem ck3_hm {o : Nat} {m m1 m2 m3 : Ex} (hm : m.1 = ck3 o m1 m2 m3) (kn : Nat → Int32) : (¬ (ckl [m1, m2, m3] kn).1 = 0 → (m.1 kn).1 = (ckl [m1, m2, m3] kn).1) ∧ ((ckl [m1, m2, m3] kn).1 = 0 → (m.1 kn).1 = (sp_kc o (ckl [m1, m2, m3] kn).2).1 ∧ ((m.1 kn).1 = 0 → (m.1 kn).2 = (sp_kc o (ckl [m1, m2, m3] kn).2).2)) := by
  rw [hm]
  unfold ck3
  by_cases q : (m1.1 kn).1 = 0
  · rw [if_neg (fun r => r q)]
    by_cases q2 : (m2.1 kn).1 = 0
    · rw [if_neg (fun r => r q2)]
      by_cases q3 : (m3.1 kn).1 = 0
      · have e3 : ckl [m3] kn = (0, [(m3.1 kn).2]) := by
          rw [ckl, if_neg (fun r => r q3)]
          rfl
        have e2 : ckl [m2, m3] kn = (0, [(m2.1 kn).2, (m3.1 kn).2]) := by
          rw [ckl, if_neg (fun r => r q2), e3]
          rfl
        have e : ckl [m1, m2, m3] kn = (0, [(m1.1 kn).2, (m2.1 kn).2, (m3.1 kn).2]) := by
          rw [ckl, if_neg (fun r => r q), e2]
          rfl
        rw [e, if_neg (fun r => r q3)]
        exact ⟨fun r => absurd rfl r, fun _ => ⟨rfl, fun _ => rfl⟩⟩
      · have e3 : ckl [m3] kn = ((m3.1 kn).1, []) := by rw [ckl, if_pos q3]
        have e2 : ckl [m2, m3] kn = ((m3.1 kn).1, []) := by
          rw [ckl, if_neg (fun r => r q2), e3, if_pos q3]
        have e : ckl [m1, m2, m3] kn = ((m3.1 kn).1, []) := by
          rw [ckl, if_neg (fun r => r q), e2, if_pos q3]
        rw [e, if_pos q3]
        exact ⟨fun _ => rfl, fun r => absurd r q3⟩
    · have e2 : ckl [m2, m3] kn = ((m2.1 kn).1, []) := by rw [ckl, if_pos q2]
      have e : ckl [m1, m2, m3] kn = ((m2.1 kn).1, []) := by
        rw [ckl, if_neg (fun r => r q), e2, if_pos q2]
      rw [e, if_pos q2]
      exact ⟨fun _ => rfl, fun r => absurd r q2⟩
  · have e : ckl [m1, m2, m3] kn = ((m1.1 kn).1, []) := by rw [ckl, if_pos q]
    rw [e, if_pos q]
    exact ⟨fun _ => rfl, fun r => absurd r q⟩
section MTy2
variable {z : State} {l : Launch} {d : Nat} {σ : Hp} {am : Nat → Nat} {w : Wd} {Q : Outcome → Hp → Prop} {n b cap nm : Nat} {op kd : Int32} {ps : List Nat} {ks cs : List Int32}
theorem ty_fun {v0 : Nat} (hc : CM z σ am) (hl : MLk w am) (hM : MSt z σ) (hv : σ.tag v0 = 10) (h : NT σ n b 3 kd ps cap ks) (hnm : σ.A 65 n = some nm) (hS : StrM σ am nm cs) (hcs : cs.length ≤ 1000) : TyR z l d σ am w Q n (sp_kc (35 + sc_idx cs sc_funs) ks) := by
  have h2 := h.1.2.1
  intro k0 k1
  exact cm_M_typeOf (d := d + 4) (b2 := v0) hc hl h.1.1 hv (fun q => absurd q (by rw [h2]; decide)) (fun q => absurd q (by rw [h2]; decide)) (fun q => absurd (h2.symm.trans q) (by decide)) (fun q => absurd (h2.symm.trans q) (by decide)) (fun q => absurd (h2.symm.trans q) (by decide)) (fun q => absurd (h2.symm.trans q) (by decide)) (fun q => absurd (h2.symm.trans q) (by decide)) (fun q => absurd (h2.symm.trans q) (by decide)) (fun _ => mo_function (d := d) hc hl hM h hnm hS hcs (fun e0 e4 _ => gj_nextI (cm_M_typeOf_99 (d := d + 4) hc (k0 e0 e4))) (fun e0 _ => gj_nextT (go_out (fun _ h => nomatch h) (k1 e0)))) (fun q => absurd (h2.symm.trans q) (by decide)) (fun q => absurd (h2.symm.trans q) (by decide)) (fun q => absurd (h2.symm.trans q) (by decide)) (fun q => absurd (h2.symm.trans q) (by decide)) (fun q => absurd (h2.symm.trans q) (by decide)) (fun q => absurd (h2.symm.trans q) (by decide)) (fun q => absurd (h2.symm.trans q) (by decide)) (fun q => absurd (h2.symm.trans q) (by decide)) (fun q => absurd (h2.symm.trans q) (by decide)) (fun q => absurd (h2.symm.trans q) (by decide))
/-- the close of a CASE, by its parts' kinds -/
def ca_ks (e : Nat) (ks : List Int32) : List Int32 := if e = 1 then ks else ks ++ [3]
theorem ty_case {v0 c e : Nat} (hc : CM z σ am) (hl : MLk w am) (hv : σ.tag v0 = 10) (h : NT σ n b 4 (nI e) ps cap ks) (he : e ≤ 1) (hlen : ps.length = 2 * c + e) : TyR z l d σ am w Q n (sp_kc 34 (ca_ks e ks)) := by
  have h2 := h.1.2.1
  have hk := h.2.1
  have hl9 : (ca_ks e ks).length = 2 * c + 1 := by
    unfold ca_ks
    rcases Nat.lt_or_ge 0 e with q | q
    · rw [if_pos (by omega)]; omega
    · rw [if_neg (by omega), List.length_append]
      show ks.length + 1 = _
      omega
  have ev9 : ev_l (ca_ks e ks) = ev_l ks ∧ sm_l (od_l (ca_ks e ks)) 3 0 = sm_l (od_l ks) 3 0 := by
    unfold ca_ks
    rcases Nat.lt_or_ge 0 e with q | q
    · rw [if_pos (by omega)]; exact ⟨rfl, rfl⟩
    · rw [if_neg (by omega)]
      obtain ⟨o1, o2⟩ := od_snoc c ks (by omega)
      rw [o1, o2, sm_snoc]
      exact ⟨rfl, rfl⟩
  obtain ⟨k9, k8⟩ := kl_case (N := (ca_ks e ks).length) c (ca_ks e ks) 0 3 0 hl9 rfl (Nat.zero_add _) (Or.inl rfl)
  have kc : sp_kc 34 (ca_ks e ks) = ((sp_kl 34 (ca_ks e ks).length (ca_ks e ks) 0 3 0).1, (sp_kl 34 (ca_ks e ks).length (ca_ks e ks) 0 3 0).2) := rfl
  rw [ev9.1, ev9.2] at k9
  rw [ev9.2] at k8
  intro k0 k1
  rw [kc] at k0 k1
  refine cm_M_typeOf (d := d + 4) (b2 := v0) hc hl h.1.1 hv (fun q => absurd q (by rw [h2]; decide)) (fun q => absurd q (by rw [h2]; decide)) (fun q => absurd (h2.symm.trans q) (by decide)) (fun q => absurd (h2.symm.trans q) (by decide)) (fun q => absurd (h2.symm.trans q) (by decide)) (fun q => absurd (h2.symm.trans q) (by decide)) (fun q => absurd (h2.symm.trans q) (by decide)) (fun q => absurd (h2.symm.trans q) (by decide)) (fun q => absurd (h2.symm.trans q) (by decide)) (fun _ => mo_chosen (d := d + 1) hc hl h he hlen (fun e0 _ => gj_nextT (go_out (fun _ h => nomatch h) ?_)) (fun e0 e1 e4 _ => gj_nextI (cm_M_typeOf_105 (d := d + 4) hc ?_))) (fun q => absurd (h2.symm.trans q) (by decide)) (fun q => absurd (h2.symm.trans q) (by decide)) (fun q => absurd (h2.symm.trans q) (by decide)) (fun q => absurd (h2.symm.trans q) (by decide)) (fun q => absurd (h2.symm.trans q) (by decide)) (fun q => absurd (h2.symm.trans q) (by decide)) (fun q => absurd (h2.symm.trans q) (by decide)) (fun q => absurd (h2.symm.trans q) (by decide)) (fun q => absurd (h2.symm.trans q) (by decide))
  · have n0 : ¬ (sp_kl 34 (ca_ks e ks).length (ca_ks e ks) 0 3 0).1 = 0 := fun q => e0 (k9.mp q).2
    have q1 := (kl_01 (o := 34) (n := (ca_ks e ks).length) (ca_ks e ks) 0 3 0 (Or.inl rfl)).resolve_left n0
    have k1' := k1 n0
    rw [show ((sp_kl 34 (ca_ks e ks).length (ca_ks e ks) 0 3 0).1, (sp_kl 34 (ca_ks e ks).length (ca_ks e ks) 0 3 0).2).1 = 1 from q1] at k1'
    exact k1'
  · have z0 := k9.mpr ⟨rfl, e0, e1⟩
    have e9 := k8 z0
    have k0' := k0 z0
    rw [show ((sp_kl 34 (ca_ks e ks).length (ca_ks e ks) 0 3 0).1, (sp_kl 34 (ca_ks e ks).length (ca_ks e ks) 0 3 0).2).2 = (sm_l (od_l ks) 3 0).2 from e9] at k0'
    exact k0' e4
end MTy2
