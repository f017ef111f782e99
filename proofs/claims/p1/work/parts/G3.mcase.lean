/-! ===== the reference: CASE ===== -/
theorem fl2_parts (me : Ex) : ∀ cs : List (Ex × Ex), fl2 cs ++ [me] = ca_parts me cs
  | [] => rfl
  | (c, r) :: cs => congrArg (fun t => c :: r :: t) (fl2_parts me cs)
theorem fl2_len : ∀ cs : List (Ex × Ex), (fl2 cs).length = 2 * cs.length
  | [] => rfl
  | (c, r) :: cs => by
    show (fl2 cs).length + 1 + 1 = 2 * (cs.length + 1)
    rw [fl2_len cs]
    omega
theorem ckl_null (kn : Nat → Int32) : ∀ ms : List Ex, ((ckl (ms ++ [ex_null]) kn).1 = (ckl ms kn).1) ∧ ((ckl ms kn).1 = 0 → ckl (ms ++ [ex_null]) kn = (0, (ckl ms kn).2 ++ [3]))
  | [] => ⟨rfl, fun _ => rfl⟩
  | m :: ms => by
    obtain ⟨h1, h2⟩ := ckl_null kn ms
    show ((ckl (m :: (ms ++ [ex_null])) kn).1 = (ckl (m :: ms) kn).1) ∧ ((ckl (m :: ms) kn).1 = 0 → ckl (m :: (ms ++ [ex_null])) kn = (0, (ckl (m :: ms) kn).2 ++ [3]))
    have u : ∀ ms', ckl (m :: ms') kn = if ¬ (m.1 kn).1 = 0 then ((m.1 kn).1, []) else if ¬ (ckl ms' kn).1 = 0 then ((ckl ms' kn).1, []) else (0, (m.1 kn).2 :: (ckl ms' kn).2) := fun ms' => by rw [ckl]
    by_cases q : (m.1 kn).1 = 0
    · have u1 : ∀ ms', ckl (m :: ms') kn = if ¬ (ckl ms' kn).1 = 0 then ((ckl ms' kn).1, []) else (0, (m.1 kn).2 :: (ckl ms' kn).2) := fun ms' => (u ms').trans (if_neg (fun r => r q))
      by_cases q2 : (ckl ms kn).1 = 0
      · have e1 : ckl (m :: (ms ++ [ex_null])) kn = (0, (m.1 kn).2 :: ((ckl ms kn).2 ++ [3])) := by
          rw [u1, h2 q2]
          exact if_neg (fun r => r rfl)
        have e2 : ckl (m :: ms) kn = (0, (m.1 kn).2 :: (ckl ms kn).2) := (u1 ms).trans (if_neg (fun r => r q2))
        rw [e1, e2]
        exact ⟨rfl, fun _ => rfl⟩
      · have e1 : ckl (m :: (ms ++ [ex_null])) kn = ((ckl ms kn).1, []) := by
          rw [u1, h1]
          exact if_pos q2
        have e2 : ckl (m :: ms) kn = ((ckl ms kn).1, []) := (u1 ms).trans (if_pos q2)
        rw [e1, e2]
        exact ⟨rfl, fun r => absurd r q2⟩
    · have u1 : ∀ ms', ckl (m :: ms') kn = ((m.1 kn).1, []) := fun ms' => (u ms').trans (if_pos q)
      rw [u1, u1]
      exact ⟨rfl, fun r => absurd r q⟩
theorem case_hm {cs : List (Ex × Ex)} {me : Ex} {ms : List Ex} {e : Nat} (hd : (e = 0 ∧ me = ex_null ∧ ms = fl2 cs) ∨ (e = 1 ∧ ms = fl2 cs ++ [me])) (kn : Nat → Int32) : (¬ (ckl ms kn).1 = 0 → ((ex_case cs me).1 kn).1 = (ckl ms kn).1) ∧ ((ckl ms kn).1 = 0 → ((ex_case cs me).1 kn).1 = (sp_kc 34 (ca_ks e (ckl ms kn).2)).1 ∧ (((ex_case cs me).1 kn).1 = 0 → ((ex_case cs me).1 kn).2 = (sp_kc 34 (ca_ks e (ckl ms kn).2)).2)) := by
  have hc : (ex_case cs me).1 = ckn 34 (ca_parts me cs) := rfl
  rcases hd with ⟨rfl, rfl, rfl⟩ | ⟨rfl, rfl⟩
  · obtain ⟨g1, g2⟩ := ckn_hm hc kn
    rw [← fl2_parts] at g1 g2
    obtain ⟨n1, n2⟩ := ckl_null kn (fl2 cs)
    rw [n1] at g1 g2
    refine ⟨g1, fun q => ?_⟩
    have g3 := g2 q
    rw [n2 q] at g3
    exact g3
  · have g := ckn_hm hc kn
    rw [← fl2_parts] at g
    exact g
section MCase
variable {lo nlo nhi hl hh : Nat} {σ0 : Hp} {am : Nat → Nat} {n b cap h : Nat} {ps : List Nat}
theorem mo_case_loop {z : State} {l : Launch} {d : Nat} {kn : Nat → Int32} {R : Nat → Va} {me : Ex} {e wh : Nat} {Q : Outcome → Hp → Prop} (g : rg_ok kn R) (hND : ND σ0 n b 4 (nI e) ps cap) (hn : Rg nlo nhi hl hh n) (hb : Rg nlo nhi hl hh b) (hcap : cap ≤ 100) (he : e ≤ 1) (hwh : wh + e = ps.length) :
    ∀ (cs : List (Ex × Ex)) (rs : List (Ex × Nat)) (i kr kb : Nat) (σ : Hp) (w : Wd) (q : Po), PE lo nlo nhi hl hh σ0 am h rs kr → i + rs.length = ps.length → (∀ j, j < rs.length → ps.getD (i + j) 0 = (rs.getD j (ex_null, 0)).2) → ((e = 0 ∧ me = ex_null ∧ rs.map Prod.fst = fl2 cs) ∨ (e = 1 ∧ rs.map Prod.fst = fl2 cs ++ [me])) → EM z σ am w R q → Ag lo nlo nhi hl hh σ0 σ → (∀ a, Dp lo nlo nhi hl hh σ0 a → Fr σ am q a) → (∀ m ∈ rs.map Prod.fst, (m.1 kn).1 = 0) → kr + 1 ≤ kb → q.k + kb ≤ 4000 →
      ((ev_ca me cs R).1 = 0 → VR z am R σ w q (ev_ca me cs R).2 kb Q) →
      (¬ (ev_ca me cs R).1 = 0 → VE z am R σ w q (ev_ca me cs R).1 kb Q) →
      Go z l mt_M_cased (d + 2 * h + 12 + 9) 12 [.ref (am 0), .ref n, .int (nI wh), .int (nI i)] [] (ov σ am 7 w) Q := by
  have d8 : d + 2 * h + 20 = d + 2 * h + 12 + 8 := by omega
  have psc : ps.length ≤ cap := hND.2.2.2.2.2.2.2.1
  have lei : ∀ i j, i ≤ 1000 → j ≤ 1000 → (nI i ≤ nI j ↔ i ≤ j) := fun i j hi hj => ⟨fun q => by
    rcases Nat.lt_or_ge j i with e | e
    · exact absurd q (nI_ge e (by omega))
    · exact e, fun q => nI_le q (by omega)⟩
  intro cs
  induction cs with
  | nil =>
    intro rs i kr kb σ w q P hi hps hd E A F hms hkb hq kO kE
    have N1 := hND.mvx (A n (Or.inl hn)) (A b (Or.inl hb))
    rcases hd with ⟨e0, hme, hrs⟩ | ⟨e1, hrs⟩
    · have r0 : rs.length = 0 := by
        have := congrArg List.length hrs
        rw [List.length_map] at this
        exact this
      have cc : nI wh ≤ nI i := (lei _ _ (by omega) (by omega)).mpr (by omega)
      have kd1 : ¬ σ.I 64 n = 1 := by rw [N1.2.2.1, e0]; decide
      rw [hme] at kO
      have kO' : VR z am R σ w q v_null kb Q := kO rfl
      exact cm_M_cased_12 (d := d + 2 * h + 12) (b2 := b) (b6 := 0) (b8 := b) (b12 := 0) E.1 N1.1 N1.2.2.2.2.1 N1.2.2.2.2.1 (fun _ _ => go_eq (show d + 2 * h + 11 + 9 = d + 2 * h + 12 + 8 by omega) (mo_null (d := d + 2 * h + 11) E (by omega) (by omega) (fun σ' w' q' v' E' F' W' V' _ => gj_nextI (cm_M_cased_84 (d := d + 2 * h + 12) E'.1 (kO' σ' w' q' v' E' F' W' V'))))) (fun _ q9 => absurd q9 kd1) (fun _ q9 => absurd q9 kd1) (fun _ q9 => absurd q9 kd1) (fun _ q9 => absurd q9 kd1) (fun q9 => absurd cc q9) (fun q9 => absurd cc q9) (fun q9 => absurd cc q9) (fun q9 => absurd cc q9)
    · obtain ⟨y, rfl⟩ : ∃ y, rs = [(me, y)] := by
        match rs, hrs with
        | [(m9, y)], hrs =>
          have h9 : m9 = me := (List.cons.inj hrs).1
          exact ⟨y, by rw [h9]⟩
      obtain ⟨a, c, k1, k2, sb, rm, P', hk12⟩ := P
      have hi' : i + 1 = ps.length := hi
      have cc : nI wh ≤ nI i := (lei _ _ (by omega) (by omega)).mpr (by omega)
      have kd1 : σ.I 64 n = 1 := by rw [N1.2.2.1, e1]; rfl
      have ex : ps.getD i 0 = y := hps 0 (Nat.succ_pos _)
      have ct : σ.I 68 n - 1 = nI i := by
        rw [N1.2.2.2.2.2.2.1, ← hi']
        exact (pk_sub (a := i + 1) (b := 1) (by omega)).trans (by rw [Nat.add_sub_cancel])
      have ei : (nI i).toNatClampNeg = i := nI_clamp (by omega)
      have zm := hms me List.mem_cons_self
      refine cm_M_cased_12 (d := d + 2 * h + 12) (b2 := b) (b6 := y) (b8 := b) (b12 := 0) E.1 N1.1 N1.2.2.2.2.1 N1.2.2.2.2.1 (fun _ q9 => absurd kd1 q9) (fun _ _ => N1.2.2.2.1) (fun _ _ => by rw [ct, N1.2.2.2.2.2.1]; exact vp_in_nI (by omega) (by omega)) (fun _ _ => by rw [ct, ei, ← ex]; exact N1.2.2.2.2.2.2.2.2 i (by omega)) (fun _ _ => ?_) (fun q9 => absurd cc q9) (fun q9 => absurd cc q9) (fun q9 => absurd cc q9) (fun q9 => absurd cc q9)
      exact go_eq d8 (ev_one (d := d) sb rm E A F g zm (by omega) (fun e0 σ' w' q' E' F' W' _ => gj_nextT (go_out (fun _ h => nomatch h) (kE e0 σ' w' q' E' (F'.mono (by omega)) W'))) (fun e0 σ' w' q' v' E' F' W' V' _ _ _ => gj_nextI (cm_M_cased_75 (d := d + 2 * h + 12) E'.1 (kO e0 σ' w' q' v' E' (F'.mono (by omega)) W' V'))))
  | cons cr cs ih =>
    obtain ⟨c, r⟩ := cr
    intro rs i kr kb σ w q P hi hps hd E A F hms hkb hq kO kE
    have N1 := hND.mvx (A n (Or.inl hn)) (A b (Or.inl hb))
    obtain ⟨y1, y2, rs', rfl, hd'⟩ : ∃ y1 y2 rs', rs = (c, y1) :: (r, y2) :: rs' ∧ ((e = 0 ∧ me = ex_null ∧ rs'.map Prod.fst = fl2 cs) ∨ (e = 1 ∧ rs'.map Prod.fst = fl2 cs ++ [me])) := by
      have key : ∀ t, rs.map Prod.fst = c :: r :: t → ∃ y1 y2 rs', rs = (c, y1) :: (r, y2) :: rs' ∧ rs'.map Prod.fst = t := fun t ht => by
        match rs, ht with
        | (c9, y1) :: (r9, y2) :: rs9, ht =>
          have h1 : c9 = c := (List.cons.inj ht).1
          have h2 := (List.cons.inj ht).2
          have h3 : r9 = r := (List.cons.inj h2).1
          exact ⟨y1, y2, rs9, by rw [h1, h3], (List.cons.inj h2).2⟩
      rcases hd with ⟨e0, hme, hrs⟩ | ⟨e1, hrs⟩
      · obtain ⟨y1, y2, rs', h1, h2⟩ := key _ hrs
        exact ⟨y1, y2, rs', h1, Or.inl ⟨e0, hme, h2⟩⟩
      · obtain ⟨y1, y2, rs', h1, h2⟩ := key _ hrs
        exact ⟨y1, y2, rs', h1, Or.inr ⟨e1, h2⟩⟩
    obtain ⟨a, c1, k1, k2, sb, rm, ⟨a2, c2, k3, k4', sb2, rm2, P', hk34⟩, hk12⟩ := P
    have hi' : i + (rs'.length + 1 + 1) = ps.length := hi
    have hl2 : e ≤ rs'.length := by
      rcases hd' with ⟨e0, -, -⟩ | ⟨e1, hrs⟩
      · omega
      · have := congrArg List.length hrs
        rw [List.length_map, List.length_append] at this
        have h9 : [me].length = 1 := rfl
        omega
    have cc : ¬ nI wh ≤ nI i := fun q9 => by have := (lei _ _ (by omega) (by omega)).mp q9; omega
    have ei : (nI i).toNatClampNeg = i := nI_clamp (by omega)
    have ei1 : (nI i + 1).toNatClampNeg = i + 1 := by rw [nI_1]; exact nI_clamp (by omega)
    have ex1 : ps.getD i 0 = y1 := hps 0 (Nat.succ_pos _)
    have ex2 : ps.getD (i + 1) 0 = y2 := hps 1 (Nat.succ_lt_succ (Nat.succ_pos _))
    have zc := hms c List.mem_cons_self
    have zr := hms r (List.mem_cons_of_mem _ List.mem_cons_self)
    have hev : ev_ca me ((c, r) :: cs) R = if ¬ (c.2.1 R).1 = 0 then c.2.1 R else if v_tr 1 (c.2.1 R).2 then r.2.1 R else ev_ca me cs R := rfl
    rw [hev] at kO kE
    refine cm_M_cased_12 (d := d + 2 * h + 12) (b2 := b) (b6 := 0) (b8 := b) (b12 := y1) E.1 N1.1 N1.2.2.2.2.1 N1.2.2.2.2.1 (fun q9 => absurd q9 cc) (fun q9 => absurd q9 cc) (fun q9 => absurd q9 cc) (fun q9 => absurd q9 cc) (fun q9 => absurd q9 cc) (fun _ => N1.2.2.2.1) (fun _ => by rw [N1.2.2.2.2.2.1]; exact vp_in_nI (by omega) (by omega)) (fun _ => by rw [ei, ← ex1]; exact N1.2.2.2.2.2.2.2.2 i (by omega)) (fun _ => ?_)
    refine go_eq d8 (ev_one (d := d) sb rm E A F g zc (by omega) (fun e0 => ?_) (fun e0 σ1 w1 q1 v1 E1 F1 W1 V1 A1 Fr1 => ?_))
    · rw [if_pos e0] at kE
      exact fun σ' w' q' E' F' W' _ => gj_nextT (go_out (fun _ h => nomatch h) (kE e0 σ' w' q' E' (F'.mono (by omega)) W'))
    rw [if_neg (fun q => q e0)] at kO kE
    have tc := rm.2.2.2.2.1.1 kn R _ g (show c.1 kn = (0, (c.1 kn).2) from Prod.ext zc rfl) e0
    have kb1 := F1.2.2.1
    have N2 := hND.mvx (A1 n (Or.inl hn)) (A1 b (Or.inl hb))
    have t16 : σ1.I 70 v1 = 16 ↔ (c.2.1 R).2.1 = 2 := by rw [V1.1.2.1]; exact mty_inj (b := 2) tc.1.k4 (by decide)
    have tr : σ1.I 70 v1 = 16 → (lg_cmp (σ1.J 71 v1) 1 = 0 ↔ v_tr 1 (c.2.1 R).2) := fun e9 => by
      rw [V1.1.2.2.1 (Or.inr (t16.mp e9)), lgc_eq0]
      exact ⟨fun r => ⟨t16.mp e9, r⟩, fun r => r.2⟩
    have nxt : ¬ v_tr 1 (c.2.1 R).2 → Go z l mt_M_cased (d + 2 * h + 12 + 9) 12 [.ref (am 0), .ref n, .int (nI wh), .int (nI i + 2)] [] (ov σ1 am 7 w1) Q := fun nt => by
      rw [if_neg nt] at kO kE
      rw [nI_2]
      refine ih rs' (i + 2) k4' (kb - k1) σ1 w1 q1 P' (by omega) (fun j hj => ?_) hd' E1 A1 Fr1 (fun m' hm' => hms m' (List.mem_cons_of_mem _ (List.mem_cons_of_mem _ hm'))) (by omega) (by omega) (fun e => (kO e).mv F1 W1 (by omega)) (fun e => (kE e).mv F1 W1 (by omega))
      have := hps (j + 2) (Nat.succ_lt_succ (Nat.succ_lt_succ hj))
      rw [show i + (j + 2) = i + 2 + j by omega] at this
      exact this
    refine fun _ => gj_nextI (cm_M_cased_27 (d := d + 2 * h + 12) (b3 := b) (b7 := y2) E1.1 V1.1.1 N2.1 N2.2.2.2.2.1 (fun e9 => nxt (fun r => e9 (t16.mpr r.1))) (fun e8 e9 => nxt (fun r => e9 ((tr e8).mpr r))) (fun _ _ => N2.2.2.2.1) (fun _ _ => by rw [N2.2.2.2.2.2.1, nI_1]; exact vp_in_nI (by omega) (by omega)) (fun _ _ => by rw [ei1, ← ex2]; exact N2.2.2.2.2.2.2.2.2 (i + 1) (by omega)) (fun e8 e9 => ?_))
    rw [if_pos ((tr e8).mp e9)] at kO kE
    exact go_eq d8 (ev_one (d := d) sb2 rm2 E1 A1 Fr1 g zr (by omega) (fun e0 σ' w' q' E' F' W' _ => gj_nextT (go_out (fun _ h => nomatch h) (kE e0 σ' w' q' E' (F1.trans F' (by omega)) (W1.trans W')))) (fun e0 σ' w' q' v' E' F' W' V' _ _ _ => gj_nextI (cm_M_cased_45 (d := d + 2 * h + 12) E'.1 (kO e0 σ' w' q' v' E' (F1.trans F' (by omega)) (W1.trans W') V'))))
theorem rn_case : CaseR am lo := by
  intro z0 σ0 cs me rs n b cap u h kv e hN am7 hlo hd hrs hcs
  obtain ⟨hn, hb⟩ := hN.rg
  have hPE := hN.2.2.2.2.2.2.2.2.pe (Nat.le_refl u) (Nat.le_refl σ0.nx)
  have hex := hPE.ex
  have he : e ≤ 1 := by rcases hd with ⟨e0, -⟩ | ⟨e1, -⟩ <;> omega
  have hln : rs.length = 2 * cs.length + e := by
    rcases hd with ⟨e0, -, h9⟩ | ⟨e1, h9⟩
    · have := congrArg List.length h9
      rw [List.length_map, fl2_len] at this
      omega
    · have := congrArg List.length h9
      rw [List.length_map, List.length_append, fl2_len] at this
      have h8 : [me].length = 1 := rfl
      omega
  have hpm : ∀ m ∈ ca_parts me cs, EX_S m ∧ EX_K m := fun m hm => by
    rw [← fl2_parts] at hm
    rcases hd with ⟨e0, hme, h9⟩ | ⟨e1, h9⟩
    · rcases List.mem_append.mp hm with q | q
      · exact hex m (by rw [h9]; exact q)
      · rw [List.mem_singleton.mp q, hme]
        exact ⟨es_null, ek_null⟩
    · exact hex m (by rw [h9]; exact hm)
  refine ⟨hlo, hn.1, hn.2.1, hN.1.1, ⟨es_case (fun m hm => (hpm m hm).1) (fun m hm => (hpm m hm).2), ek_n (fun m hm => (hpm m hm).2) (by decide)⟩, nb_rnk (F := fun _ ks => sp_kc 34 (ca_ks e ks)) hN (by omega) (fun kn _ => case_hm hd kn) (fun z l d σ w kn Q ks Km hz A N _ => ?_), ?_, hn.2.2⟩
  · obtain ⟨v0, hv⟩ := Km.2.2.2.1
    exact ty_case (c := cs.length) Km.1 Km.2.1 hv N he (by rw [List.length_map]; exact hln)
  intro z l d σ w kn R q Q E A F g c9 b9 kO kE
  obtain ⟨zs, -⟩ := ckn_ok (o := 34) c9
  have cap9 : cap ≤ 100 := hN.2.1.2
  have N' := hN.1.mvx (A n (Or.inl hn)) (A b (Or.inl hb))
  have ew : σ.I 68 n - σ.I 64 n = nI (2 * cs.length) := by
    rw [N'.2.2.2.2.2.2.1, N'.2.2.1, List.length_map, hln]
    exact (pk_sub (a := 2 * cs.length + e) (b := e) (by omega)).trans (by rw [Nat.add_sub_cancel])
  refine go_eq (show d + 2 * h + 13 + 9 = d + 2 * (h + 1) + 20 by omega) (ev_4 (d := d + 2 * h + 13) E.1 E.2.1 N' (cm_M_cased (d := d + 2 * h + 12) E.1 N'.1 ?_))
  rw [ew]
  refine mo_case_loop (d := d) (me := me) (e := e) (wh := 2 * cs.length) g hN.1 hn hb cap9 he (by rw [List.length_map]; omega) cs rs 0 kv (kv + 1) σ w q hPE (by rw [List.length_map, Nat.zero_add]) (fun j hj => ?_) hd E A F (fun m hm => zs m ?_) (Nat.le_refl _) b9 (fun e0 => ?_) (fun e0 => ?_)
  · rw [Nat.zero_add]
    simp [List.getD, hj]
  · show m ∈ ca_parts me cs
    rw [← fl2_parts]
    rcases hd with ⟨-, -, h9⟩ | ⟨-, h9⟩
    · rw [h9] at hm
      exact List.mem_append_left _ hm
    · rw [h9] at hm
      exact hm
  · exact fun σ' w' q' v E' F' W' V' _ => gj_nextI (cm_M_eval_102 (d := d + 2 * h + 13) E'.1 (kO e0 σ' w' q' v E' F' W' V'))
  · exact fun σ' w' q' E' F' W' _ => gj_nextT (go_out (fun _ h => nomatch h) (kE e0 σ' w' q' E' F' W'))
end MCase
