/-! ===== the reference: functions called ===== -/
theorem fun_cases (o : Nat) (ms : List Ex) (ho : 35 ≤ o) (ho2 : o ≤ 42) : (o = 40 ∧ ex_fun o ms = ex_co ms) ∨ (∃ m, ms = [m] ∧ (o = 35 ∨ o = 36 ∨ o = 37 ∨ o = 38) ∧ ex_fun o ms = ex_1 o m) ∨ (∃ m1 m2, ms = [m1, m2] ∧ o = 41 ∧ ex_fun o ms = ex_nullif m1 m2) ∨ (∃ m1 m2 m3, ms = [m1, m2, m3] ∧ o = 39 ∧ ex_fun o ms = ex_substr m1 m2 m3) ∨ (sp_takes o ms.length = false ∧ ex_fun o ms = ex_bad o ms) := by
  by_cases h40 : o = 40
  · exact Or.inl ⟨h40, if_pos h40⟩
  have tk : ∀ N : Nat, ¬ ((o = 35 ∨ o = 36 ∨ o = 37 ∨ o = 38) ∧ N = 1) → ¬ (o = 41 ∧ N = 2) → ¬ (o = 39 ∧ N = 3) → sp_takes o N = false := fun N n1 n2 n3 => by
    unfold sp_takes
    by_cases a1 : o = 35 ∨ o = 36 ∨ o = 37 ∨ o = 38
    · rw [if_pos a1]
      exact beq_false_of_ne (fun e => n1 ⟨a1, e⟩)
    · rw [if_neg a1]
      by_cases a2 : o = 41
      · rw [if_pos a2]
        exact beq_false_of_ne (fun e => n2 ⟨a2, e⟩)
      · rw [if_neg a2]
        by_cases a3 : o = 39
        · rw [if_pos a3]
          exact beq_false_of_ne (fun e => n3 ⟨a3, e⟩)
        · rw [if_neg a3, if_neg h40]
          exact decide_eq_false (fun r => r (by omega))
  have e0 : ex_fun o ms = match ms with
    | [m] => if o = 35 ∨ o = 36 ∨ o = 37 ∨ o = 38 then ex_1 o m else ex_bad o ms
    | [m1, m2] => if o = 41 then ex_nullif m1 m2 else ex_bad o ms
    | [m1, m2, m3] => if o = 39 then ex_substr m1 m2 m3 else ex_bad o ms
    | _ => ex_bad o ms := if_neg h40
  refine Or.inr ?_
  match ms, e0 with
  | [], e0 => exact Or.inr (Or.inr (Or.inr ⟨tk 0 (fun q => by omega) (fun q => by omega) (fun q => by omega), e0⟩))
  | [m], e0 =>
    by_cases a1 : o = 35 ∨ o = 36 ∨ o = 37 ∨ o = 38
    · exact Or.inl ⟨m, rfl, a1, e0.trans (if_pos a1)⟩
    · exact Or.inr (Or.inr (Or.inr ⟨tk 1 (fun q => a1 q.1) (fun q => by omega) (fun q => by omega), e0.trans (if_neg a1)⟩))
  | [m1, m2], e0 =>
    by_cases a1 : o = 41
    · exact Or.inr (Or.inl ⟨m1, m2, rfl, a1, e0.trans (if_pos a1)⟩)
    · exact Or.inr (Or.inr (Or.inr ⟨tk 2 (fun q => by omega) (fun q => a1 q.1) (fun q => by omega), e0.trans (if_neg a1)⟩))
  | [m1, m2, m3], e0 =>
    by_cases a1 : o = 39
    · exact Or.inr (Or.inr (Or.inl ⟨m1, m2, m3, rfl, a1, e0.trans (if_pos a1)⟩))
    · exact Or.inr (Or.inr (Or.inr ⟨tk 3 (fun q => by omega) (fun q => by omega) (fun q => a1 q.1), e0.trans (if_neg a1)⟩))
  | a :: b :: c :: e :: r, e0 =>
    exact Or.inr (Or.inr (Or.inr ⟨tk _ (fun q => absurd q.2 (by simp)) (fun q => absurd q.2 (by simp)) (fun q => absurd q.2 (by simp)), e0⟩))
theorem fun_hm (o : Nat) (ms : List Ex) (ho : 35 ≤ o) (ho2 : o ≤ 42) (kn : Nat → Int32) : (¬ (ckl ms kn).1 = 0 → ((ex_fun o ms).1 kn).1 = (ckl ms kn).1) ∧ ((ckl ms kn).1 = 0 → ((ex_fun o ms).1 kn).1 = (sp_kc o (ckl ms kn).2).1 ∧ (((ex_fun o ms).1 kn).1 = 0 → ((ex_fun o ms).1 kn).2 = (sp_kc o (ckl ms kn).2).2)) := by
  rcases fun_cases o ms ho ho2 with ⟨h, e⟩ | ⟨m, h, -, e⟩ | ⟨m1, m2, h, h9, e⟩ | ⟨m1, m2, m3, h, h9, e⟩ | ⟨-, e⟩
  · rw [e, h]
    exact ckn_hm rfl kn
  · rw [e]
    subst h
    exact ck1_hm rfl kn
  · rw [e]
    subst h
    subst h9
    exact ck2_hm (o := 41) rfl kn
  · rw [e]
    subst h
    subst h9
    exact ck3_hm (o := 39) rfl kn
  · rw [e]
    exact ckn_hm rfl kn
theorem fun_es (o : Nat) (ms : List Ex) (ho : 35 ≤ o) (ho2 : o ≤ 42) (hx : ∀ m ∈ ms, EX_S m ∧ EX_K m) : EX_S (ex_fun o ms) ∧ EX_K (ex_fun o ms) := by
  rcases fun_cases o ms ho ho2 with ⟨h, e⟩ | ⟨m, h, h9, e⟩ | ⟨m1, m2, h, h9, e⟩ | ⟨m1, m2, m3, h, h9, e⟩ | ⟨h, e⟩
  · rw [e]
    exact ⟨es_co (fun m hm => (hx m hm).1) (fun m hm => (hx m hm).2), ek_n (fun m hm => (hx m hm).2) (by decide)⟩
  · rw [e]
    subst h
    have hm := hx m List.mem_cons_self
    rcases h9 with h9 | h9 | h9 | h9 <;> subst h9
    · exact ⟨es_1 hm.1 (Or.inl (Or.inr rfl)), ek_1 hm.2 (by decide)⟩
    · exact ⟨es_1 hm.1 (Or.inl (Or.inr rfl)), ek_1 hm.2 (by decide)⟩
    · exact ⟨es_1 hm.1 (Or.inr (Or.inl rfl)), ek_1 hm.2 (by decide)⟩
    · exact ⟨es_1 hm.1 (Or.inr (Or.inr rfl)), ek_1 hm.2 (by decide)⟩
  · rw [e]
    subst h
    have hm := hx m1 List.mem_cons_self
    have hm2 := hx m2 (List.mem_cons_of_mem _ List.mem_cons_self)
    exact ⟨es_nullif hm.1 hm.2 hm2.2, ek_2 hm.2 hm2.2 (by decide)⟩
  · rw [e]
    subst h
    have hm := hx m1 List.mem_cons_self
    have hm2 := hx m2 (List.mem_cons_of_mem _ List.mem_cons_self)
    have hm3 := hx m3 (List.mem_cons_of_mem _ (List.mem_cons_of_mem _ List.mem_cons_self))
    exact ⟨es_substr hm.1, ek_3 hm.2 hm2.2 hm3.2 (by decide)⟩
  · rw [e]
    exact ⟨fun kn R k hr hk => absurd (congrArg Prod.fst hk) (bad_ck h kn), fun kn R hr hk => absurd hk (bad_ck h kn)⟩
/-- a function's node, its name's text -/
def FnH (lo u nhi : Nat) (σ0 : Hp) (am : Nat → Nat) (n b nm cap : Nat) (cs : List Int32) (ps : List Nat) : Prop := ND σ0 n b 3 0 ps cap ∧ Rg u nhi 0 0 n ∧ Rg u nhi 0 0 b ∧ cap ≤ 100 ∧ σ0.A 65 n = some nm ∧ StrM σ0 am nm cs ∧ cs.length ≤ 1000 ∧ Dp lo u nhi 0 0 σ0 nm ∧ ∀ r, σ0.A 81 nm = some r → Dp lo u nhi 0 0 σ0 r
theorem StrM.mvx {σ σ' : Hp} {am : Nat → Nat} {a : Nat} {cs : List Int32} (h : StrM σ am a cs) (fa : SameX σ σ' a) (f : ∀ b, σ.A 81 a = some b → SameX σ σ' b) : StrM σ' am a cs := by
  obtain ⟨⟨h1, h2, b, h5, h6, h7, h8⟩, hb⟩ := h
  have fb := f b h5
  exact ⟨⟨fa.1.trans h1, ((fa.2.2.1 82).1 (by decide)).trans h2, b, (fa.2.2.1 81).2.2.trans h5, fb.1.trans h6, fb.2.1.trans h7, fun i hi => by rw [fb.2.2.2.1]; exact h8 i hi⟩, fun q hq => hb q ((fa.2.2.1 81).2.2.symm.trans hq)⟩
section MCall
variable {lo u nhi : Nat} {σ0 : Hp} {am : Nat → Nat} {n b nm cap h : Nat} {cs : List Int32} {ps : List Nat}
theorem FnH.at {σ : Hp} (H : FnH lo u nhi σ0 am n b nm cap cs ps) (A : Ag lo u nhi 0 0 σ0 σ) : ND σ n b 3 0 ps cap ∧ σ.A 65 n = some nm ∧ StrM σ am nm cs := by
  obtain ⟨h1, h2, h3, h4, h5, h6, h7, h8, h9⟩ := H
  exact ⟨h1.mvx (A n (Or.inl h2)) (A b (Or.inl h3)), ((A n (Or.inl h2)).2.2.1 65).2.2.trans h5, h6.mvx (A nm h8) (fun r hr => A r (h9 r hr))⟩
theorem fn_eq {z : State} {l : Launch} {d j a : Nat} {σ : Hp} {w : Wd} {P : Outcome → Hp → Prop} (hc : CM z σ am) (hS : StrM σ am nm cs) (hcs : cs.length ≤ 1000) (hj : j < 7) (hO : StrO z σ a (sc_funs.getD j [])) (kk : P (.returned (some (.int (b2i (decide (sc_idx cs sc_funs = j)))))) (ov σ am 7 w)) : Go z l mt_JString_equals (d + 2 * h + 12 + 8) 0 [.ref nm, .ref a, .retAddr 0] [] (ov σ am 7 w) P := by
  refine go_eq (show d + 2 * h + 10 + 10 = d + 2 * h + 12 + 8 by omega) (str_eq (d := d + 2 * h + 10) (hS.ov hc) (str_om hc hO) (by omega) (by have := (by decide : ∀ j, j < 7 → (sc_funs.getD j []).length ≤ 8) j hj; omega) ?_)
  rw [dec_eq (fn_iff (cs := cs) hj)]
  exact kk
/-- COALESCE, from its part i on -/
theorem mo_co_loop {z : State} {l : Launch} {d : Nat} {kn : Nat → Int32} {R : Nat → Va} {Q : Outcome → Hp → Prop} (g : rg_ok kn R) (H : FnH lo u nhi σ0 am n b nm cap cs ps) :
    ∀ (rs : List (Ex × Nat)) (i kr kb : Nat) (σ : Hp) (w : Wd) (q : Po), PE lo u nhi 0 0 σ0 am h rs kr → i + rs.length = ps.length → (∀ j, j < rs.length → ps.getD (i + j) 0 = (rs.getD j (ex_null, 0)).2) → EM z σ am w R q → Ag lo u nhi 0 0 σ0 σ → (∀ a, Dp lo u nhi 0 0 σ0 a → Fr σ am q a) → (∀ m ∈ rs.map Prod.fst, (m.1 kn).1 = 0) → kr + 1 ≤ kb → q.k + kb ≤ 4000 →
      ((ev_co (rs.map Prod.fst) R).1 = 0 → VR z am R σ w q (ev_co (rs.map Prod.fst) R).2 kb Q) →
      (¬ (ev_co (rs.map Prod.fst) R).1 = 0 → VE z am R σ w q (ev_co (rs.map Prod.fst) R).1 kb Q) →
      Go z l mt_M_called (d + 2 * h + 12 + 9) 15 [.ref (am 0), .ref n, .int (nI i), .retAddr 0, .retAddr 0, .retAddr 0, .retAddr 0, .retAddr 0, .retAddr 0, .retAddr 0] [] (ov σ am 7 w) Q := by
  have psc : ps.length ≤ cap := H.1.2.2.2.2.2.2.2.1
  have hcap := H.2.2.2.1
  intro rs
  induction rs with
  | nil =>
    intro i kr kb σ w q P hi hps E A F hms hkb hq kO kE
    obtain ⟨N1, -, -⟩ := H.at A
    have hi' : i = ps.length := hi
    have cc : σ.I 68 n ≤ nI i := by
      rw [N1.2.2.2.2.2.2.1]
      exact nI_le (by omega) (by omega)
    have kO' : VR z am R σ w q v_null kb Q := kO rfl
    exact cm_M_called_15 (d := d + 2 * h + 12) (b2 := b) (b6 := 0) E.1 N1.1 N1.2.2.2.2.1 (fun _ => go_eq (show d + 2 * h + 11 + 9 = d + 2 * h + 12 + 8 by omega) (mo_null (d := d + 2 * h + 11) E (by omega) (by omega) (fun σ' w' q' v' E' F' W' V' _ => gj_nextI (cm_M_called_55 (d := d + 2 * h + 12) E'.1 (kO' σ' w' q' v' E' F' W' V'))))) (fun q9 => absurd cc q9) (fun q9 => absurd cc q9) (fun q9 => absurd cc q9) (fun q9 => absurd cc q9)
  | cons r rs ih =>
    obtain ⟨m, y⟩ := r
    intro i kr kb σ w q P hi hps E A F hms hkb hq kO kE
    obtain ⟨a, c, k1, k2, sb, rm, P', hk12⟩ := P
    obtain ⟨N1, -, -⟩ := H.at A
    have hi' : i + (rs.length + 1) = ps.length := hi
    have cc : ¬ σ.I 68 n ≤ nI i := fun q9 => by
      rw [N1.2.2.2.2.2.2.1] at q9
      exact absurd q9 (nI_ge (by omega) (by omega))
    have ei : (nI i).toNatClampNeg = i := nI_clamp (by omega)
    have ex : ps.getD i 0 = y := hps 0 (Nat.succ_pos _)
    have zm := hms m List.mem_cons_self
    have hev : ev_co (((m, y) :: rs).map Prod.fst) R = if ¬ (m.2.1 R).1 = 0 then m.2.1 R else if (m.2.1 R).2.1 = 3 then ev_co (rs.map Prod.fst) R else m.2.1 R := rfl
    rw [hev] at kO kE
    refine cm_M_called_15 (d := d + 2 * h + 12) (b2 := b) (b6 := y) E.1 N1.1 N1.2.2.2.2.1 (fun q9 => absurd q9 cc) (fun _ => N1.2.2.2.1) (fun _ => by rw [N1.2.2.2.2.2.1]; exact vp_in_nI (by omega) (by omega)) (fun _ => by rw [ei, ← ex]; exact N1.2.2.2.2.2.2.2.2 i (by omega)) (fun _ => ?_)
    refine go_eq (show d + 2 * h + 20 = d + 2 * h + 12 + 8 by omega) (ev_one (d := d) sb rm E A F g zm (by omega) (fun e0 => ?_) (fun e0 σ1 w1 q1 v1 E1 F1 W1 V1 A1 Fr1 => ?_))
    · rw [if_pos e0] at kE
      exact fun σ' w' q' E' F' W' _ => gj_nextT (go_out (fun _ h => nomatch h) (kE e0 σ' w' q' E' (F'.mono (by omega)) W'))
    rw [if_neg (fun q => q e0)] at kO kE
    have tm := rm.2.2.2.2.1.1 kn R _ g (show m.1 kn = (0, (m.1 kn).2) from Prod.ext zm rfl) e0
    have kb1 := F1.2.2.1
    have t0 : σ1.I 70 v1 = 0 ↔ (m.2.1 R).2.1 = 3 := by rw [V1.1.2.1]; exact mty_0 tm.1.k4
    refine fun _ => gj_nextI (cm_M_called_33 (d := d + 2 * h + 12) E1.1 V1.1.1 (fun e9 => go_drop 3 ?_) (fun e9 => ?_))
    · rw [if_pos (t0.mp e9)] at kO kE
      rw [nI_1]
      refine ih (i + 1) k2 (kb - k1) σ1 w1 q1 P' (by omega) (fun j hj => ?_) E1 A1 Fr1 (fun m' hm' => hms m' (List.mem_cons_of_mem _ hm')) (by omega) (by omega) (fun e => (kO e).mv F1 W1 (by omega)) (fun e => (kE e).mv F1 W1 (by omega))
      have := hps (j + 1) (Nat.succ_lt_succ hj)
      rw [show i + (j + 1) = i + 1 + j by omega] at this
      exact this
    · rw [if_neg (fun r => e9 (t0.mpr r))] at kO
      exact kO e0 σ1 w1 q1 v1 E1 (F1.mono (by omega)) W1 V1
/-- the first part is worked out -/
theorem mo_ev0 {z : State} {l : Launch} {d : Nat} {σ : Hp} {w : Wd} {kn : Nat → Int32} {R : Nat → Va} {q : Po} {Q : Outcome → Hp → Prop} {m1 : Ex} {x1 a1 c1 k1 : Nat} (H : FnH lo u nhi σ0 am n b nm cap cs ps) (hp : 1 ≤ ps.length) (hx : ps.getD 0 0 = x1) (nco : ¬ sc_idx cs sc_funs = 5) (s1 : Sb u nhi 0 0 a1 c1 0 0) (r1 : RepN m1 lo a1 c1 σ0 am x1 h k1) (E : EM z σ am w R q) (A : Ag lo u nhi 0 0 σ0 σ) (F : ∀ a, Dp lo u nhi 0 0 σ0 a → Fr σ am q a) (g : rg_ok kn R) (e1 : (m1.1 kn).1 = 0) (hb : q.k + k1 ≤ 4000)
    (kE : ¬ (m1.2.1 R).1 = 0 → VE z am R σ w q (m1.2.1 R).1 k1 Q)
    (kO : (m1.2.1 R).1 = 0 → ∀ σ1 w1 q1 v1, EM z σ1 am w1 R q1 → EvF am σ q σ1 q1 k1 → WE w w1 → VF σ1 am q1 v1 (m1.2.1 R).2 → Ag lo u nhi 0 0 σ0 σ1 → (∀ a, Dp lo u nhi 0 0 σ0 a → Fr σ1 am q1 a) → Go z l mt_M_called (d + 2 * h + 12 + 9) 66 [.ref (am 0), .ref n, .retAddr 0, .retAddr 0, .retAddr 0, .retAddr 0, .retAddr 0, .retAddr 0, .retAddr 0, .retAddr 0] [.ref v1] (ov σ1 am 7 w1) Q) :
    Go z l mt_M_called (d + 2 * h + 12 + 9) 0 [.ref (am 0), .ref n, .retAddr 0, .retAddr 0, .retAddr 0, .retAddr 0, .retAddr 0, .retAddr 0, .retAddr 0, .retAddr 0] [] (ov σ am 7 w) Q := by
  obtain ⟨N1, hA, hS⟩ := H.at A
  have psc : ps.length ≤ cap := H.1.2.2.2.2.2.2.2.1
  have hcap := H.2.2.2.1
  refine cm_M_called (d := d + 2 * h + 12) (b2 := nm) E.1 N1.1 hS.1.1 hA (fn_eq (j := 5) E.1 hS H.2.2.2.2.2.2.1 (by decide) (ms_c334 E.2.2.1) (fun _ => gj_nextI ?_))
  rw [decide_eq_false nco]
  refine cm_M_called_10 (d := d + 2 * h + 12) (b2 := b) (b6 := x1) E.1 N1.1 N1.2.2.2.2.1 (fun _ => N1.2.2.2.1) (fun _ => by rw [N1.2.2.2.2.2.1]; exact vp_in_nI (n := 0) (by omega) (by omega)) (fun _ => by rw [← hx]; exact N1.2.2.2.2.2.2.2.2 0 (by omega)) (fun _ => ?_) (fun q9 => absurd rfl q9)
  exact go_eq (show d + 2 * h + 20 = d + 2 * h + 12 + 8 by omega) (ev_one (d := d) s1 r1 E A F g e1 hb (fun e0 σ' w' q' E' F' W' _ => gj_nextT (go_out (fun _ h => nomatch h) (kE e0 σ' w' q' E' F' W'))) (fun e0 σ' w' q' v' E' F' W' V' A' Fr' _ => gj_nextI (kO e0 σ' w' q' v' E' F' W' V' A' Fr')))
/-- one part -/
theorem mo_pre1 {z : State} {l : Launch} {d : Nat} {σ : Hp} {w : Wd} {R : Nat → Va} {q : Po} {Q : Outcome → Hp → Prop} {v1 : Nat} (H : FnH lo u nhi σ0 am n b nm cap cs ps) (hp : ps.length = 1) (E : EM z σ am w R q) (A : Ag lo u nhi 0 0 σ0 σ)
    (kk : Go z l mt_M_called (d + 2 * h + 12 + 9) 124 [.ref (am 0), .ref n, .ref v1, .ref v1, .ref v1, .retAddr 0, .retAddr 0, .retAddr 0, .retAddr 0, .retAddr 0] [.int (b2i (decide (sc_idx cs sc_funs = 6)))] (ov σ am 7 w) Q) :
    Go z l mt_M_called (d + 2 * h + 12 + 9) 66 [.ref (am 0), .ref n, .retAddr 0, .retAddr 0, .retAddr 0, .retAddr 0, .retAddr 0, .retAddr 0, .retAddr 0, .retAddr 0] [.ref v1] (ov σ am 7 w) Q := by
  obtain ⟨N1, hA, hS⟩ := H.at A
  have i68 : σ.I 68 n = 1 := by rw [N1.2.2.2.2.2.2.1, hp]; rfl
  have l1 : σ.I 68 n ≤ 1 := by rw [i68]; decide
  have l2 : σ.I 68 n ≤ 2 := by rw [i68]; decide
  exact cm_M_called_66 (d := d + 2 * h + 12) (b2 := nm) (b5 := b) (b9 := 0) (b11 := b) (b15 := 0) E.1 N1.1 hS.1.1 N1.2.2.2.2.1 N1.2.2.2.2.1 (fun _ _ => hA) (fun _ _ => fn_eq (j := 6) E.1 hS H.2.2.2.2.2.2.1 (by decide) (ms_c336 E.2.2.1) (fun _ => gj_nextI kk)) (fun _ q9 => absurd l2 q9) (fun _ q9 => absurd l2 q9) (fun _ q9 => absurd l2 q9) (fun _ q9 => absurd l2 q9) (fun q9 => absurd l1 q9) (fun q9 => absurd l1 q9) (fun q9 => absurd l1 q9) (fun q9 => absurd l1 q9)
/-- the second part -/
theorem mo_ev1 {z : State} {l : Launch} {d : Nat} {σ : Hp} {w : Wd} {kn : Nat → Int32} {R : Nat → Va} {q : Po} {Q : Outcome → Hp → Prop} {m1 : Ex} {v1 x1 a1 c1 k1 : Nat} (H : FnH lo u nhi σ0 am n b nm cap cs ps) (hp : 2 ≤ ps.length) (hx : ps.getD 1 0 = x1) (s1 : Sb u nhi 0 0 a1 c1 0 0) (r1 : RepN m1 lo a1 c1 σ0 am x1 h k1) (E : EM z σ am w R q) (A : Ag lo u nhi 0 0 σ0 σ) (F : ∀ a, Dp lo u nhi 0 0 σ0 a → Fr σ am q a) (g : rg_ok kn R) (e1 : (m1.1 kn).1 = 0) (hb : q.k + k1 ≤ 4000)
    (kE : ¬ (m1.2.1 R).1 = 0 → VE z am R σ w q (m1.2.1 R).1 k1 Q)
    (kO : (m1.2.1 R).1 = 0 → ∀ σ1 w1 q1 v2, EM z σ1 am w1 R q1 → EvF am σ q σ1 q1 k1 → WE w w1 → VF σ1 am q1 v2 (m1.2.1 R).2 → Ag lo u nhi 0 0 σ0 σ1 → (∀ a, Dp lo u nhi 0 0 σ0 a → Fr σ1 am q1 a) → Go z l mt_M_called (d + 2 * h + 12 + 9) 85 [.ref (am 0), .ref n, .ref v1, .retAddr 0, .retAddr 0, .retAddr 0, .retAddr 0, .retAddr 0, .retAddr 0, .retAddr 0] [.ref v2] (ov σ1 am 7 w1) Q) :
    Go z l mt_M_called (d + 2 * h + 12 + 9) 66 [.ref (am 0), .ref n, .retAddr 0, .retAddr 0, .retAddr 0, .retAddr 0, .retAddr 0, .retAddr 0, .retAddr 0, .retAddr 0] [.ref v1] (ov σ am 7 w) Q := by
  obtain ⟨N1, hA, hS⟩ := H.at A
  have psc : ps.length ≤ cap := H.1.2.2.2.2.2.2.2.1
  have hcap := H.2.2.2.1
  have l1 : ¬ σ.I 68 n ≤ 1 := fun q9 => by
    rw [N1.2.2.2.2.2.2.1] at q9
    exact absurd (show nI ps.length ≤ nI 1 from q9) (nI_ge (by omega) (by omega))
  refine cm_M_called_66 (d := d + 2 * h + 12) (b2 := nm) (b5 := b) (b9 := 0) (b11 := b) (b15 := x1) E.1 N1.1 hS.1.1 N1.2.2.2.2.1 N1.2.2.2.2.1 (fun q9 => absurd q9 l1) (fun q9 => absurd q9 l1) (fun q9 => absurd q9 l1) (fun q9 => absurd q9 l1) (fun q9 => absurd q9 l1) (fun q9 => absurd q9 l1) (fun _ => N1.2.2.2.1) (fun _ => by rw [N1.2.2.2.2.2.1]; exact vp_in_nI (n := 1) (by omega) (by omega)) (fun _ => by rw [← hx]; exact N1.2.2.2.2.2.2.2.2 1 (by omega)) (fun _ => ?_)
  exact go_eq (show d + 2 * h + 20 = d + 2 * h + 12 + 8 by omega) (ev_one (d := d) s1 r1 E A F g e1 hb (fun e0 σ' w' q' E' F' W' _ => gj_nextT (go_out (fun _ h => nomatch h) (kE e0 σ' w' q' E' F' W'))) (fun e0 σ' w' q' v' E' F' W' V' A' Fr' _ => gj_nextI (kO e0 σ' w' q' v' E' F' W' V' A' Fr')))
theorem mo_pre2 {z : State} {l : Launch} {d : Nat} {σ : Hp} {w : Wd} {R : Nat → Va} {q : Po} {Q : Outcome → Hp → Prop} {v1 v2 : Nat} (H : FnH lo u nhi σ0 am n b nm cap cs ps) (hp : ps.length = 2) (E : EM z σ am w R q) (A : Ag lo u nhi 0 0 σ0 σ)
    (kk : Go z l mt_M_called (d + 2 * h + 12 + 9) 124 [.ref (am 0), .ref n, .ref v1, .ref v2, .ref v1, .retAddr 0, .retAddr 0, .retAddr 0, .retAddr 0, .retAddr 0] [.int (b2i (decide (sc_idx cs sc_funs = 6)))] (ov σ am 7 w) Q) :
    Go z l mt_M_called (d + 2 * h + 12 + 9) 85 [.ref (am 0), .ref n, .ref v1, .retAddr 0, .retAddr 0, .retAddr 0, .retAddr 0, .retAddr 0, .retAddr 0, .retAddr 0] [.ref v2] (ov σ am 7 w) Q := by
  obtain ⟨N1, hA, hS⟩ := H.at A
  have l2 : σ.I 68 n ≤ 2 := by rw [N1.2.2.2.2.2.2.1, hp]; decide
  exact cm_M_called_85 (d := d + 2 * h + 12) (b2 := nm) (b5 := b) (b9 := 0) E.1 N1.1 hS.1.1 N1.2.2.2.2.1 (fun _ => hA) (fun _ => fn_eq (j := 6) E.1 hS H.2.2.2.2.2.2.1 (by decide) (ms_c336 E.2.2.1) (fun _ => gj_nextI kk)) (fun q9 => absurd l2 q9) (fun q9 => absurd l2 q9) (fun q9 => absurd l2 q9) (fun q9 => absurd l2 q9)
/-- the third part -/
theorem mo_ev2 {z : State} {l : Launch} {d : Nat} {σ : Hp} {w : Wd} {kn : Nat → Int32} {R : Nat → Va} {q : Po} {Q : Outcome → Hp → Prop} {m1 : Ex} {v1 v2 x1 a1 c1 k1 : Nat} (H : FnH lo u nhi σ0 am n b nm cap cs ps) (hp : 3 ≤ ps.length) (hx : ps.getD 2 0 = x1) (s1 : Sb u nhi 0 0 a1 c1 0 0) (r1 : RepN m1 lo a1 c1 σ0 am x1 h k1) (E : EM z σ am w R q) (A : Ag lo u nhi 0 0 σ0 σ) (F : ∀ a, Dp lo u nhi 0 0 σ0 a → Fr σ am q a) (g : rg_ok kn R) (e1 : (m1.1 kn).1 = 0) (hb : q.k + k1 ≤ 4000)
    (kE : ¬ (m1.2.1 R).1 = 0 → VE z am R σ w q (m1.2.1 R).1 k1 Q)
    (kO : (m1.2.1 R).1 = 0 → ∀ σ1 w1 q1 v3, EM z σ1 am w1 R q1 → EvF am σ q σ1 q1 k1 → WE w w1 → VF σ1 am q1 v3 (m1.2.1 R).2 → Ag lo u nhi 0 0 σ0 σ1 → (∀ a, Dp lo u nhi 0 0 σ0 a → Fr σ1 am q1 a) → Go z l mt_M_called (d + 2 * h + 12 + 9) 124 [.ref (am 0), .ref n, .ref v1, .ref v2, .ref v3, .retAddr 0, .retAddr 0, .retAddr 0, .retAddr 0, .retAddr 0] [.int (b2i (decide (sc_idx cs sc_funs = 6)))] (ov σ1 am 7 w1) Q) :
    Go z l mt_M_called (d + 2 * h + 12 + 9) 85 [.ref (am 0), .ref n, .ref v1, .retAddr 0, .retAddr 0, .retAddr 0, .retAddr 0, .retAddr 0, .retAddr 0, .retAddr 0] [.ref v2] (ov σ am 7 w) Q := by
  obtain ⟨N1, hA, hS⟩ := H.at A
  have psc : ps.length ≤ cap := H.1.2.2.2.2.2.2.2.1
  have hcap := H.2.2.2.1
  have l2 : ¬ σ.I 68 n ≤ 2 := fun q9 => by
    rw [N1.2.2.2.2.2.2.1] at q9
    exact absurd (show nI ps.length ≤ nI 2 from q9) (nI_ge (by omega) (by omega))
  refine cm_M_called_85 (d := d + 2 * h + 12) (b2 := nm) (b5 := b) (b9 := x1) E.1 N1.1 hS.1.1 N1.2.2.2.2.1 (fun q9 => absurd q9 l2) (fun q9 => absurd q9 l2) (fun _ => N1.2.2.2.1) (fun _ => by rw [N1.2.2.2.2.2.1]; exact vp_in_nI (n := 2) (by omega) (by omega)) (fun _ => by rw [← hx]; exact N1.2.2.2.2.2.2.2.2 2 (by omega)) (fun _ => ?_)
  refine go_eq (show d + 2 * h + 20 = d + 2 * h + 12 + 8 by omega) (ev_one (d := d) s1 r1 E A F g e1 hb (fun e0 σ' w' q' E' F' W' _ => gj_nextT (go_out (fun _ h => nomatch h) (kE e0 σ' w' q' E' F' W'))) (fun e0 σ' w' q' v' E' F' W' V' A' Fr' _ => gj_nextI ?_))
  obtain ⟨N2, hA2, hS2⟩ := H.at A'
  exact cm_M_called_108 (d := d + 2 * h + 12) (b2 := nm) E'.1 N2.1 hS2.1.1 hA2 (fn_eq (j := 6) E'.1 hS2 H.2.2.2.2.2.2.1 (by decide) (ms_c336 E'.2.2.1) (fun _ => gj_nextI (kO e0 σ' w' q' v' E' F' W' V' A' Fr')))
end MCall
