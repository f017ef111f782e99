/-! ===== nodes over one or two parts ===== -/
section MBin
variable {lo nlo nhi hl hh : Nat} {σ0 σ σ1 : Hp} {am : Nat → Nat} {q q1 : Po} {kv : Nat}
theorem Ag.ev (A : Ag lo nlo nhi hl hh σ0 σ) (F : ∀ a, Dp lo nlo nhi hl hh σ0 a → Fr σ am q a) (f : EvF am σ q σ1 q1 kv) : Ag lo nlo nhi hl hh σ0 σ1 ∧ ∀ a, Dp lo nlo nhi hl hh σ0 a → Fr σ1 am q1 a :=
  ⟨fun a ha => (A a ha).trans (f.1 a (F a ha)).2.sx, fun a ha => (f.1 a (F a ha)).1⟩
end MBin
theorem ck1_0 {o : Nat} {m : Ex} {kn : Nat → Int32} (h : (ck1 o m kn).1 = 0) : (m.1 kn).1 = 0 ∧ (sp_kc o [(m.1 kn).2]).1 = 0 := by
  unfold ck1 at h
  by_cases q : (m.1 kn).1 = 0
  · rw [if_neg (fun r => r q)] at h
    exact ⟨q, h⟩
  · rw [if_pos q] at h
    exact absurd h q
theorem ck2_0 {o : Nat} {m1 m2 : Ex} {kn : Nat → Int32} (h : (ck2 o m1 m2 kn).1 = 0) : (m1.1 kn).1 = 0 ∧ (m2.1 kn).1 = 0 ∧ (sp_kc o [(m1.1 kn).2, (m2.1 kn).2]).1 = 0 := by
  unfold ck2 at h
  by_cases q : (m1.1 kn).1 = 0
  · rw [if_neg (fun r => r q)] at h
    by_cases q2 : (m2.1 kn).1 = 0
    · rw [if_neg (fun r => r q2)] at h
      exact ⟨q, q2, h⟩
    · rw [if_pos q2] at h
      exact absurd h q2
  · rw [if_pos q] at h
    exact absurd h q
/-- the checks of one and of two parts, as a list's -/
theorem ck1_hm {o : Nat} {m m1 : Ex} (h : m.1 = ck1 o m1) (kn : Nat → Int32) : (¬ (ckl [m1] kn).1 = 0 → (m.1 kn).1 = (ckl [m1] kn).1) ∧ ((ckl [m1] kn).1 = 0 → (m.1 kn).1 = (sp_kc o (ckl [m1] kn).2).1 ∧ ((m.1 kn).1 = 0 → (m.1 kn).2 = (sp_kc o (ckl [m1] kn).2).2)) := by
  rw [h]
  unfold ck1
  by_cases q : (m1.1 kn).1 = 0
  · have e : ckl [m1] kn = (0, [(m1.1 kn).2]) := by
      rw [ckl, if_neg (fun r => r q)]
      rfl
    rw [e, if_neg (fun r => r q)]
    exact ⟨fun r => absurd rfl r, fun _ => ⟨rfl, fun _ => rfl⟩⟩
  · have e : ckl [m1] kn = ((m1.1 kn).1, []) := by rw [ckl, if_pos q]
    rw [e, if_pos q]
    exact ⟨fun _ => rfl, fun r => absurd r q⟩
theorem ck2_hm {o : Nat} {m m1 m2 : Ex} (h : m.1 = ck2 o m1 m2) (kn : Nat → Int32) : (¬ (ckl [m1, m2] kn).1 = 0 → (m.1 kn).1 = (ckl [m1, m2] kn).1) ∧ ((ckl [m1, m2] kn).1 = 0 → (m.1 kn).1 = (sp_kc o (ckl [m1, m2] kn).2).1 ∧ ((m.1 kn).1 = 0 → (m.1 kn).2 = (sp_kc o (ckl [m1, m2] kn).2).2)) := by
  rw [h]
  unfold ck2
  by_cases q : (m1.1 kn).1 = 0
  · rw [if_neg (fun r => r q)]
    by_cases q2 : (m2.1 kn).1 = 0
    · have e2 : ckl [m2] kn = (0, [(m2.1 kn).2]) := by
        rw [ckl, if_neg (fun r => r q2)]
        rfl
      have e : ckl [m1, m2] kn = (0, [(m1.1 kn).2, (m2.1 kn).2]) := by
        rw [ckl, if_neg (fun r => r q), e2]
        rfl
      rw [e, if_neg (fun r => r q2)]
      exact ⟨fun r => absurd rfl r, fun _ => ⟨rfl, fun _ => rfl⟩⟩
    · have e2 : ckl [m2] kn = ((m2.1 kn).1, []) := by rw [ckl, if_pos q2]
      have e : ckl [m1, m2] kn = ((m2.1 kn).1, []) := by
        rw [ckl, if_neg (fun r => r q), e2, if_pos q2]
      rw [e, if_pos q2]
      exact ⟨fun _ => rfl, fun r => absurd r q2⟩
  · have e : ckl [m1, m2] kn = ((m1.1 kn).1, []) := by rw [ckl, if_pos q]
    rw [e, if_pos q]
    exact ⟨fun _ => rfl, fun r => absurd r q⟩
/-- two parts: what the frame of the evaluation needs of them -/
def K2 (lo nlo nhi hl hh : Nat) (σ : Hp) (am : Nat → Nat) (m1 m2 : Ex) (x y a1 c1 a2 c2 h k1 k2 : Nat) : Prop := RepN m1 lo a1 c1 σ am x h k1 ∧ RepN m2 lo a2 c2 σ am y h k2 ∧ c1 ≤ a2 ∧ nlo ≤ a1 ∧ Sb nlo nhi hl hh a1 c1 0 0 ∧ Sb nlo nhi hl hh a2 c2 0 0
theorem K2.pk {lo nlo nhi hl hh : Nat} {σ : Hp} {am : Nat → Nat} {m1 m2 : Ex} {x y a1 c1 a2 c2 h k1 k2 : Nat} (r : K2 lo nlo nhi hl hh σ am m1 m2 x y a1 c1 a2 c2 h k1 k2) : PK lo nlo nhi hl hh σ am h [(m1, x), (m2, y)] nlo := by
  obtain ⟨r1, r2, h1, h2, s1, s2⟩ := r
  exact ⟨a1, c1, 0, 0, h2, ⟨r1.2.1, r1.2.2.1, fun q => absurd q.2 (Nat.not_lt_zero _)⟩, s1, r1.2.2.2.1, r1.2.2.2.2.2.1, a2, c2, 0, 0, h1, ⟨r2.2.1, r2.2.2.1, fun q => absurd q.2 (Nat.not_lt_zero _)⟩, s2, r2.2.2.2.1, r2.2.2.2.2.2.1, trivial⟩
section MBin2
variable {lo nlo nhi hl hh : Nat} {σ0 : Hp} {am : Nat → Nat} {m1 m2 : Ex} {n x y a1 c1 a2 c2 h k1 k2 : Nat} {kd : Int32}
/-- both parts worked out, one after the other -/
theorem ev_two {z : State} {l : Launch} {d : Nat} {σ : Hp} {w : Wd} {kn : Nat → Int32} {R : Nat → Va} {q : Po} {M1 : Outcome → Hp → Prop} (r : K2 lo nlo nhi hl hh σ0 am m1 m2 x y a1 c1 a2 c2 h k1 k2) (E : EM z σ am w R q) (A : Ag lo nlo nhi hl hh σ0 σ) (F : ∀ a, Dp lo nlo nhi hl hh σ0 a → Fr σ am q a) (g : rg_ok kn R) (e1 : (m1.1 kn).1 = 0) (e2 : (m2.1 kn).1 = 0) (hb : q.k + k1 + k2 ≤ 4000)
    (kE1 : ¬ (m1.2.1 R).1 = 0 → VE z am R σ w q (m1.2.1 R).1 k1 M1)
    (kO1 : (m1.2.1 R).1 = 0 → ∀ σ1 w1 q1 v1, EM z σ1 am w1 R q1 → EvF am σ q σ1 q1 k1 → WE w w1 → VF σ1 am q1 v1 (m1.2.1 R).2 → Ag lo nlo nhi hl hh σ0 σ1 → (∀ a, Dp lo nlo nhi hl hh σ0 a → Fr σ1 am q1 a) → q1.k + k2 ≤ 4000 → M1 (.returned (some (.ref v1))) (ov σ1 am 7 w1)) :
    Go z l mt_M_eval (d + 2 * h + 20) 0 [.ref (am 0), .ref x, .retAddr 0, .retAddr 0, .retAddr 0, .retAddr 0, .retAddr 0] [] (ov σ am 7 w) M1 := by
  obtain ⟨r1, r2, h1, h2, s1, s2⟩ := r
  refine r1.2.2.2.2.2.2.1 z l d σ w kn R q M1 E (A.sub s1) (fun a ha => F a (Dp.sub s1 ha)) g e1 (by omega) (fun e0 σ' w' q' v E' F' W' V' => ?_) (fun e0 σ' w' q' E' F' W' => kE1 e0 σ' w' q' E' F' W')
  obtain ⟨A', Fr'⟩ := Ag.ev A F F'
  exact kO1 e0 σ' w' q' v E' F' W' V' A' Fr' (by have := F'.2.2.1; omega)
theorem ev_snd {z : State} {l : Launch} {d : Nat} {σ : Hp} {w : Wd} {kn : Nat → Int32} {R : Nat → Va} {q : Po} {M2 : Outcome → Hp → Prop} (r : K2 lo nlo nhi hl hh σ0 am m1 m2 x y a1 c1 a2 c2 h k1 k2) (E : EM z σ am w R q) (A : Ag lo nlo nhi hl hh σ0 σ) (F : ∀ a, Dp lo nlo nhi hl hh σ0 a → Fr σ am q a) (g : rg_ok kn R) (e2 : (m2.1 kn).1 = 0) (hb : q.k + k2 ≤ 4000)
    (kE : ¬ (m2.2.1 R).1 = 0 → VE z am R σ w q (m2.2.1 R).1 k2 M2)
    (kO : (m2.2.1 R).1 = 0 → ∀ σ1 w1 q1 v1, EM z σ1 am w1 R q1 → EvF am σ q σ1 q1 k2 → WE w w1 → VF σ1 am q1 v1 (m2.2.1 R).2 → Ag lo nlo nhi hl hh σ0 σ1 → (∀ a, Dp lo nlo nhi hl hh σ0 a → Fr σ1 am q1 a) → M2 (.returned (some (.ref v1))) (ov σ1 am 7 w1)) :
    Go z l mt_M_eval (d + 2 * h + 20) 0 [.ref (am 0), .ref y, .retAddr 0, .retAddr 0, .retAddr 0, .retAddr 0, .retAddr 0] [] (ov σ am 7 w) M2 := by
  obtain ⟨r1, r2, h1, h2, s1, s2⟩ := r
  refine r2.2.2.2.2.2.2.1 z l d σ w kn R q M2 E (A.sub s2) (fun a ha => F a (Dp.sub s2 ha)) g e2 hb (fun e0 σ' w' q' v E' F' W' V' => ?_) (fun e0 σ' w' q' E' F' W' => kE e0 σ' w' q' E' F' W')
  obtain ⟨A', Fr'⟩ := Ag.ev A F F'
  exact kO e0 σ' w' q' v E' F' W' V' A' Fr'
/-- the kinds of two parts that must be the same -/
theorem kc_sm2 {o : Nat} {k1 k2 : Int32} (ho : sp_takes o 2 = true) (h34 : ¬ o = 34) (h1 : op_first.getD o 0 = 4) (h2 : op_rest.getD o 0 = 4) (h : (sp_kc o [k1, k2]).1 = 0) : sp_fits k2 k1 := by
  have e : (sp_kc o [k1, k2]).1 = (sp_kl o 2 [k1, k2] 0 3 0).1 := by rw [show sp_kc o [k1, k2] = _ from if_pos ho]; rfl
  rw [e, sp_kl, if_pos (due_1 h34 h1 h2 0 2), sp_kl, if_pos (due_1 h34 h1 h2 1 2), if_pos rfl, if_pos (show sp_fits k1 3 from Or.inr (Or.inr (Or.inl rfl)))] at h
  by_cases q : sp_fits k2 k1
  · exact q
  · rw [if_neg q] at h
    exact absurd (show (1 : Int32) = 0 from h) (by decide)
theorem kc_due2 {o : Nat} {kw k1 k2 : Int32} (ho : sp_takes o 2 = true) (h34 : ¬ o = 34) (h1 : op_first.getD o 0 = kw) (h2 : op_rest.getD o 0 = kw) (hk : ¬ kw = 4) (h : (sp_kc o [k1, k2]).1 = 0) : sp_fits k1 kw ∧ sp_fits k2 kw := by
  have e : (sp_kc o [k1, k2]).1 = (sp_kl o 2 [k1, k2] 0 3 0).1 := by rw [show sp_kc o [k1, k2] = _ from if_pos ho]; rfl
  rw [e, sp_kl, if_neg (by rw [due_1 h34 h1 h2]; exact hk), due_1 h34 h1 h2, sp_kl, if_neg (by rw [due_1 h34 h1 h2]; exact hk), due_1 h34 h1 h2] at h
  by_cases q1 : sp_fits k1 kw
  · by_cases q2 : sp_fits k2 kw
    · exact ⟨q1, q2⟩
    · rw [if_neg q2] at h
      exact absurd (show (1 : Int32) = 0 from h) (by decide)
  · rw [if_neg q1, ite_self] at h
    exact absurd (show (1 : Int32) = 0 from h) (by decide)
theorem kc_due1 {o : Nat} {kw k1 : Int32} (ho : sp_takes o 1 = true) (h34 : ¬ o = 34) (h1 : op_first.getD o 0 = kw) (hk : ¬ kw = 4) (h : (sp_kc o [k1]).1 = 0) : sp_fits k1 kw := by
  have e : (sp_kc o [k1]).1 = (sp_kl o 1 [k1] 0 3 0).1 := by rw [show sp_kc o [k1] = _ from if_pos ho]; rfl
  have d0 : sp_due o 0 1 = kw := by unfold sp_due; rw [if_neg h34, if_pos rfl]; exact h1
  rw [e, sp_kl, if_neg (by rw [d0]; exact hk), d0] at h
  by_cases q1 : sp_fits k1 kw
  · exact q1
  · rw [if_neg q1] at h
    exact absurd (show (1 : Int32) = 0 from h) (by decide)
/-- a value of a kind that fits kw is null or of that kind -/
theorem ty_ft {k kw : Int32} {v : Va} (h : ty_ok k v) (f : sp_fits k kw) (h3 : ¬ kw = 3) (h5 : ¬ kw = 5) : v.1 = 3 ∨ v.1 = kw := by
  rcases h.2.2 with e | e
  · exact Or.inl e
  · rcases f with q | q | q | q
    · exact Or.inr (e.trans q)
    · exact Or.inl (e.trans q)
    · exact absurd q h3
    · exact absurd q h5
theorem ty_same {k1 k2 : Int32} {u v : Va} (hu : ty_ok k1 u) (hv : ty_ok k2 v) (f : sp_fits k2 k1) (h5 : ¬ k1 = 5) : ¬ u.1 = 3 → ¬ v.1 = 3 → u.1 = v.1 := fun nu nv => by
  have eu := hu.2.2.resolve_left nu
  have ev := hv.2.2.resolve_left nv
  rcases f with q | q | q | q
  · rw [eu, ev, q]
  · exact absurd (ev.trans q) nv
  · exact absurd (eu.trans q) nu
  · exact absurd q h5
end MBin2
section MBin3
variable {lo : Nat} {am : Nat → Nat}
theorem pair_K {σ : Hp} {m1 m2 : Ex} {n x y a c1 c2 e2 e h k1 k2 hl hh : Nat} (h1 : c1 ≤ c2) (h2 : e2 ≤ n) (h3 : n + 2 ≤ e) (hho : ∀ r, hl ≤ r → r < hh → c1 ≤ r ∧ r < c2) (r1 : RepN m1 lo a c1 σ am x h k1) (r2 : RepN m2 lo c2 e2 σ am y h k2) : K2 lo a e hl hh σ am m1 m2 x y a c1 c2 e2 h k1 k2 ∧ Rg a e hl hh n ∧ Rg a e hl hh (n + 1) := by
  have q1 := r1.2.1
  have q2 := r1.2.2.1
  have q3 := r2.2.1
  have q4 := r2.2.2.1
  refine ⟨⟨r1, r2, h1, Nat.le_refl _, ⟨by omega, fun r q => ⟨q.1, by have := q.2.1; omega, fun q9 => ?_⟩⟩, ⟨by omega, fun r q => ⟨by have := q.1; omega, by have := q.2.1; omega, fun q9 => ?_⟩⟩⟩, ⟨by omega, by omega, fun q9 => ?_⟩, ⟨by omega, by omega, fun q9 => ?_⟩⟩
  · have := hho r q9.1 q9.2
    have := q.2.1
    omega
  · have := hho r q9.1 q9.2
    have := q.1
    omega
  · have := hho n q9.1 q9.2
    omega
  · have := hho (n + 1) q9.1 q9.2
    omega
theorem rnk_2 {σ0 : Hp} {m m1 m2 : Ex} {nlo nhi hl hh n b x y a1 c1 a2 c2 h k1 k2 o : Nat} {opc kd : Int32} (hm : m.1 = ck2 o m1 m2) (hN : ND σ0 n b opc kd [x, y] 2) (hn : Rg nlo nhi hl hh n) (hb : Rg nlo nhi hl hh b) (K : K2 lo nlo nhi hl hh σ0 am m1 m2 x y a1 c1 a2 c2 h k1 k2)
    (hT : ∀ (z : State) (l : Launch) (d : Nat) (σ : Hp) (w : Wd) (Q : Outcome → Hp → Prop) (ks : List Int32) (v0 : Nat), CM z σ am → MLk w am → σ.tag v0 = 10 → NT σ n b opc kd [x, y] 2 ks → ks.length = 2 → TyR z l d σ am w Q n (sp_kc o ks)) : RNK m lo nlo nhi hl hh σ0 am n (h + 1) :=
  rnk_node (rs := [(m1, x), (m2, y)]) (F := fun _ => sp_kc o) hN hn hb (show 2 ≤ 100 ∧ 2 ≤ 1000 by decide) rfl K.pk (fun kn _ => ck2_hm hm kn) (fun z l d σ w kn Q ks Km hz A N e => by
    obtain ⟨v0, hv⟩ := Km.2.2.2.1
    exact hT z l d σ w Q ks v0 Km.1 Km.2.1 hv N N.2.1)
/-- a comparison -/
theorem rn_cmp : PairR am lo 9 (fun o => nI (o - 20)) ex_2 (fun o => 20 ≤ o ∧ o ≤ 25) := by
  intro o σ0 m1 m2 n x y a c1 c2 e2 e h k1 k2 hl hh vd N h1 h2 h3 hho r1 r2
  obtain ⟨K, hn, hb⟩ := pair_K h1 h2 h3 hho r1 r2
  obtain ⟨t1, t2, t3, t4⟩ := (by decide +kernel : ∀ o, o < 26 → 20 ≤ o → op_first.getD o 0 = 4 ∧ op_rest.getD o 0 = 4 ∧ op_result.getD o 0 = 2 ∧ ¬ o = 34) o (by omega) vd.1
  have tk : sp_takes o 2 = true := by
    unfold sp_takes
    rw [if_neg (by omega), if_neg (by omega), if_neg (by omega), if_neg (by omega)]
    exact decide_eq_true (by omega)
  refine ⟨r1.1, hn.1, hn.2.1, N.1, ⟨es_2 r1.2.2.2.2.1.1 r2.2.2.2.2.1.1 (Or.inl (Or.inl t3)), ek_2 r1.2.2.2.2.1.2 r2.2.2.2.2.1.2 (by rw [t3]; decide)⟩, rnk_2 rfl N hn hb K (fun z l d σ w Q ks v0 hc hl hv NT9 _ => ty_cmp vd hc hl hv NT9), ?_, hn.2.2⟩
  intro z l d σ w kn R q Q E A F g c b9 kO kE
  obtain ⟨z1, z2, z3⟩ := ck2_0 c
  have N' := N.mvx (A n (Or.inl hn)) (A (n + 1) (Or.inl hb))
  have ev : (ex_2 o m1 m2).2.1 R = ev2 o m1 m2 R := rfl
  rw [ev] at kO kE
  unfold ev2 at kO kE
  refine go_eq (show d + 2 * h + 13 + 9 = d + 2 * (h + 1) + 20 by omega) (ev_9 (d := d + 2 * h + 13) E.1 E.2.1 N' (show 1 ≤ 2 by decide) (show 2 ≤ 100 ∧ 2 ≤ 1000 by decide) (go_eq (show d + 1 + 2 * h + 20 = d + 2 * h + 13 + 8 by omega) (ev_two (d := d + 1) K E A F g z1 z2 (by omega) (fun e0 => ?_) (fun e0 σ1 w1 q1 v1 E1 F1 W1 V1 A1 Fr1 b1 => ?_))))
  · rw [if_pos e0] at kE
    exact fun σ' w' q' E' F' W' _ => gj_nextT (go_out (fun _ h => nomatch h) (kE e0 σ' w' q' E' (F'.mono (by omega)) W'))
  · rw [if_neg (fun q => q e0)] at kO kE
    have N1 := N.mvx (A1 n (Or.inl hn)) (A1 (n + 1) (Or.inl hb))
    refine fun _ => gj_nextI (cm_M_eval_247 (d := d + 2 * h + 13) (b2 := n + 1) (b6 := y) E1.1 N1.1 N1.2.2.2.2.1 N1.2.2.2.1 (by rw [N1.2.2.2.2.2.1]; exact vp_in_nI (n := 1) (by decide) (by decide)) (N1.2.2.2.2.2.2.2.2 1 (show 1 < 2 by decide)) (go_eq (show d + 1 + 2 * h + 20 = d + 2 * h + 13 + 8 by omega) (ev_snd (d := d + 1) K E1 A1 Fr1 g z2 b1 (fun e1 => ?_) (fun e1 σ2 w2 q2 v2 E2 F2 W2 V2 A2 Fr2 => ?_))))
    · rw [if_pos e1] at kE
      exact fun σ' w' q' E' F' W' _ => gj_nextT (go_out (fun _ h => nomatch h) (kE e1 σ' w' q' E' (F1.trans F' (by omega)) (W1.trans W')))
    · rw [if_neg (fun q => q e1)] at kO kE
      have ty1 := r1.2.2.2.2.1.1 kn R _ g (show m1.1 kn = (0, (m1.1 kn).2) from Prod.ext z1 rfl) e0
      have ty2 := r2.2.2.2.2.1.1 kn R _ g (show m2.1 kn = (0, (m2.1 kn).2) from Prod.ext z2 rfl) e1
      have V1' := V1.mv F2
      have N2 := N.mvx (A2 n (Or.inl hn)) (A2 (n + 1) (Or.inl hb))
      have N1k : σ1.I 64 n = nI (o - 20) := N1.2.2.1
      rw [N1k]
      refine fun _ => gj_nextI (cm_M_eval_266 (d := d + 2 * h + 13) E2.1 (go_eq (show d + 2 * h + 10 + 11 = d + 2 * h + 13 + 8 by omega) (mo_told (d := d + 2 * h + 10) (kd := o - 20) (kv := 1) E2 (by have := F1.2.2.1; have := F2.2.2.1; omega) V1'.1 V2.1 ty1.1.k4 ty2.1.k4 (ty_same ty1 ty2 (kc_sm2 tk t4 t1 t2 z3) (r1.2.2.2.2.1.2 kn R g z1)) (by omega) (Nat.le_refl _) ?_)))
      rw [show 20 + (o - 20) = o by omega]
      intro σ3 w3 q3 v3 E3 F3 W3 V3 _
      refine gj_nextI (cm_M_eval_269 (d := d + 2 * h + 13) E3.1 ?_)
      have st : sp_st o (m1.2.1 R).2 (m2.2.1 R).2 v_null = (0, v_bool (sp_bool o (m1.2.1 R).2 (m2.2.1 R).2)) := by
        unfold sp_st
        rw [if_pos t3]
      rw [st] at kO
      by_cases e3 : (m1.2.1 R).2.1 = 3 ∨ (m2.2.1 R).2.1 = 3
      · rw [if_pos e3] at kO V3
        exact kO rfl σ3 w3 q3 v3 E3 ((F1.trans F2 (Nat.le_refl _)).trans F3 (by omega)) ((W1.trans W2).trans W3) V3
      · rw [if_neg e3] at kO V3
        exact kO rfl σ3 w3 q3 v3 E3 ((F1.trans F2 (Nat.le_refl _)).trans F3 (by omega)) ((W1.trans W2).trans W3) V3
end MBin3
