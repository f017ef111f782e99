/-! ===== leaves of the reference's trees ===== -/
def ex_lit (x : Va) : Ex := (fun _ => (0, x.1), fun _ => (0, x), 1)
theorem VM.mvx {σ σ' : Hp} {am : Nat → Nat} {v : Nat} {x : Va} (h : VM σ am v x) (s1 : SameX σ σ' v) (s2 : ∀ t, σ.A 73 v = some t → SameX σ σ' t) : VM σ' am v x := by
  obtain ⟨h1, h2, h3, m, hm, h4, t, h5, h6, h7, h8, h9⟩ := h
  have st := s2 t h5
  exact ⟨s1.1.trans h1, ((s1.2.2.1 70).1 (by decide)).trans h2, fun e => (s1.2.2.1 71).2.1.trans (h3 e), m, hm, ((s1.2.2.1 72).1 (by decide)).trans h4, t, (s1.2.2.1 73).2.2.trans h5, st.1.trans h6, h7, st.2.1.trans h8, fun e => ⟨(h9 e).1, fun i hi => by rw [st.2.2.2.1]; exact (h9 e).2 i hi⟩⟩
section MLeaf
variable {lo nlo nhi : Nat} {σ0 : Hp} {am : Nat → Nat} {n b v : Nat}
theorem rn_lit {x : Va} (hN : ND σ0 n b 0 0 [] 2) (hA : σ0.A 66 n = some v) (hV : VM σ0 am v x) (hS : EX_S (ex_lit x)) (hk : k4 x.1) (d1 : Dp lo nlo nhi 0 0 σ0 v) (d2 : ∀ t, σ0.A 73 v = some t → Dp lo nlo nhi 0 0 σ0 t) (hlo : lo ≤ nlo) (hn0 : nlo ≤ n ∧ n < nhi) (hb0 : nlo ≤ b ∧ b < nhi) : RepN (ex_lit x) lo nlo nhi σ0 am n 1 0 := by
  have hn : Rg nlo nhi 0 0 n := ⟨hn0.1, hn0.2, fun q => absurd q.2 (Nat.not_lt_zero _)⟩
  have hb : Rg nlo nhi 0 0 b := ⟨hb0.1, hb0.2, fun q => absurd q.2 (Nat.not_lt_zero _)⟩
  refine ⟨hlo, hn0.1, hn0.2, hN.1, ⟨hS, fun kn R hr h0 => k4_5 hk⟩, ?_, ?_, fun q => absurd q.2 (Nat.not_lt_zero _)⟩
  · refine rnk_node (h := 0) (rs := []) (F := fun _ _ => (0, x.1)) hN hn hb (by decide) rfl trivial (fun kn _ => ⟨fun q => absurd rfl q, fun _ => ⟨rfl, fun _ => rfl⟩⟩) (fun z l d σ w kn Q ks K hz A N e k0 k1 => ?_)
    have V := hV.mvx (A v d1) (fun t ht => A t (d2 t ht))
    refine ty_lit (v0 := v) K.1 K.2.1 V.1 N.1.1 N.1.2.1 (((A n (Or.inl hn)).2.2.1 66).2.2.trans hA) ?_
    rw [V.2.1]
    exact k0 rfl hk
  · intro z l d σ w kn R q Q E A F g c b9 k0 k1
    have N := hN.mvx (A n (Or.inl hn)) (A b (Or.inl hb))
    have V := hV.mvx (A v d1) (fun t ht => A t (d2 t ht))
    have ea : σ.A 66 n = some v := ((A n (Or.inl hn)).2.2.1 66).2.2.trans hA
    refine go_eq (show d + 13 + 9 = d + 2 * 1 + 20 by omega) (ev_lit (d := d + 13) E.1 E.2.1 N ea (k0 rfl σ w q v E (EvF.rfl' am σ q) (WE.rfl' w) ⟨V, F v d1, fun t ht => F t (d2 t (((A v d1).2.2.1 73).2.2.symm.trans ht))⟩))
theorem rn_reg {r : Nat} (hr : r < 8) (hN : ND σ0 n b 2 (nI r) [] 2) (hlo : lo ≤ nlo) (hn0 : nlo ≤ n ∧ n < nhi) (hb0 : nlo ≤ b ∧ b < nhi) : RepN (ex_reg r) lo nlo nhi σ0 am n 1 0 := by
  have hn : Rg nlo nhi 0 0 n := ⟨hn0.1, hn0.2, fun q => absurd q.2 (Nat.not_lt_zero _)⟩
  have hb : Rg nlo nhi 0 0 b := ⟨hb0.1, hb0.2, fun q => absurd q.2 (Nat.not_lt_zero _)⟩
  refine ⟨hlo, hn0.1, hn0.2, hN.1, ⟨es_reg hr, ek_reg hr⟩, ?_, ?_, fun q => absurd q.2 (Nat.not_lt_zero _)⟩
  · refine rnk_node (h := 0) (rs := []) (F := fun kn _ => (0, kn r)) hN hn hb (by decide) rfl trivial (fun kn _ => ⟨fun q => absurd rfl q, fun _ => ⟨rfl, fun _ => rfl⟩⟩) (fun z l d σ w kn Q ks K hz A N e k0 k1 => ?_)
    obtain ⟨v9, hv9⟩ := K.2.2.2.1
    obtain ⟨r1, r2⟩ := K.2.2.2.2 r hr
    refine ty_reg (v0 := v9) K.1 K.2.1 hv9 N.1.1 N.1.2.1 N.1.2.2.1 hr ?_
    rw [r1]
    exact k0 rfl r2
  · intro z l d σ w kn R q Q E A F g c b9 k0 k1
    have N := hN.mvx (A n (Or.inl hn)) (A b (Or.inl hb))
    obtain ⟨v, hv, hV⟩ := E.2.2.2.2.1 r hr
    refine go_eq (show d + 13 + 9 = d + 2 * 1 + 20 by omega) (ev_reg (d := d + 13) E.1 E.2.1 N N.2.2.1 hr hv (k0 rfl σ w q v E (EvF.rfl' am σ q) (WE.rfl' w) hV))
end MLeaf
