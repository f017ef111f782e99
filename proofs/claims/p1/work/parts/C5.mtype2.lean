/-! ===== the reference's checker: kinds of a CASE, of a function ===== -/
def od_l : List Int32 → List Int32
  | [] => []
  | [a] => [a]
  | _ :: b :: r => b :: od_l r
def ev_l : List Int32 → List Int32
  | [] => []
  | [_] => []
  | a :: _ :: r => a :: ev_l r
def sm_l : List Int32 → Int32 → Int32 → Int32 × Int32
  | [], s, e => (e, s)
  | k :: ks, s, e => sm_l ks (if s = 3 then k else s) (if sp_fits k s then e else 1)
theorem sm_one : ∀ (ks : List Int32) (s : Int32), (sm_l ks s 1).1 = 1
  | [], _ => rfl
  | k :: ks, s => by
    unfold sm_l
    rw [ite_self]
    exact sm_one ks _
theorem sm_snoc : ∀ (ks : List Int32) (s e : Int32), sm_l (ks ++ [3]) s e = sm_l ks s e
  | [], s, e => by
    show sm_l [] (if s = 3 then 3 else s) (if sp_fits 3 s then e else 1) = (e, s)
    rw [if_pos (show sp_fits 3 s from Or.inr (Or.inl rfl))]
    by_cases q : s = 3
    · rw [if_pos q, q]; rfl
    · rw [if_neg q]; rfl
  | k :: ks, s, e => sm_snoc ks _ _
theorem od_snoc : ∀ (m : Nat) (ks : List Int32), ks.length = 2 * m → od_l (ks ++ [3]) = od_l ks ++ [3] ∧ ev_l (ks ++ [3]) = ev_l ks
  | 0, [], _ => ⟨rfl, rfl⟩
  | m + 1, a :: b :: r, h => by
    have := od_snoc m r (by simp at h; omega)
    exact ⟨congrArg (b :: ·) this.1, congrArg (a :: ·) this.2⟩
  | 0, _ :: _, h => absurd h (by simp)
  | m + 1, [], h => absurd h (by simp)
  | m + 1, [_], h => absurd h (by rw [List.length_singleton]; omega)
theorem due_34 (i N : Nat) : sp_due 34 i N = if i % 2 = 0 ∧ i + 1 < N then 2 else 4 := rfl
/-- a CASE's close, by its conditions and its results -/
theorem kl_case {N : Nat} : ∀ (m : Nat) (ks : List Int32) (i : Nat) (s e : Int32), ks.length = 2 * m + 1 → i % 2 = 0 → i + ks.length = N → (e = 0 ∨ e = 1) →
    ((sp_kl 34 N ks i s e).1 = 0 ↔ e = 0 ∧ (∀ k ∈ ev_l ks, sp_fits k 2) ∧ (sm_l (od_l ks) s 0).1 = 0) ∧ ((sp_kl 34 N ks i s e).1 = 0 → (sp_kl 34 N ks i s e).2 = (sm_l (od_l ks) s 0).2)
  | 0, [k], i, s, e, _, hi, hN, he => by
    have hN' : i + 1 = N := hN
    have E : sp_kl 34 N [k] i s e = (if sp_fits k s then e else 1, if s = 3 then k else s) := by
      have d0 : sp_due 34 i N = 4 := by rw [due_34]; exact if_neg (by omega)
      rw [sp_kl, if_pos d0]
      rfl
    have E2 : sm_l (od_l [k]) s 0 = (if sp_fits k s then 0 else 1, if s = 3 then k else s) := rfl
    rw [E, E2]
    refine ⟨?_, fun _ => rfl⟩
    by_cases q : sp_fits k s
    · rw [if_pos q, if_pos q]
      exact ⟨fun h => ⟨h, (fun k hk => absurd (show k ∈ ([] : List Int32) from hk) (List.not_mem_nil)), rfl⟩, fun h => h.1⟩
    · rw [if_neg q, if_neg q]
      exact ⟨fun h => absurd (show (1 : Int32) = 0 from h) (by decide), fun h => absurd (show (1 : Int32) = 0 from h.2.2) (by decide)⟩
  | m + 1, a :: b :: r, i, s, e, hl, hi, hN, he => by
    have hl' : r.length = 2 * m + 1 := by simp at hl; omega
    have hN' : i + (r.length + 2) = N := hN
    have E : sp_kl 34 N (a :: b :: r) i s e = sp_kl 34 N r (i + 2) (if s = 3 then b else s) (if sp_fits b s then (if sp_fits a 2 then e else 1) else 1) := by
      have d0 : sp_due 34 i N = 2 := by rw [due_34]; exact if_pos ⟨hi, by omega⟩
      have d1 : sp_due 34 (i + 1) N = 4 := by rw [due_34]; exact if_neg (by omega)
      rw [sp_kl, if_neg (by rw [d0]; decide), d0, sp_kl, if_pos d1]
    have E2 : sm_l (od_l (a :: b :: r)) s 0 = sm_l (od_l r) (if s = 3 then b else s) (if sp_fits b s then 0 else 1) := rfl
    have E3 : ev_l (a :: b :: r) = a :: ev_l r := rfl
    rw [E, E2, E3]
    by_cases qb : sp_fits b s
    · rw [if_pos qb, if_pos qb]
      by_cases qa : sp_fits a 2
      · rw [if_pos qa]
        obtain ⟨h1, h2⟩ := kl_case (N := N) m r (i + 2) (if s = 3 then b else s) e hl' (by omega) (by omega) he
        refine ⟨h1.trans ⟨fun h => ⟨h.1, fun k hk => ?_, h.2.2⟩, fun h => ⟨h.1, fun k hk => h.2.1 k (List.mem_cons_of_mem _ hk), h.2.2⟩⟩, h2⟩
        rcases List.mem_cons.mp hk with e | e
        · rw [e]; exact qa
        · exact h.2.1 k e
      · rw [if_neg qa, kl_one]
        exact ⟨⟨fun h => absurd h (by decide), fun h => absurd (h.2.1 a (List.mem_cons_self ..)) qa⟩, fun h => absurd h (by decide)⟩
    · rw [if_neg qb, if_neg qb, kl_one, sm_one]
      exact ⟨⟨fun h => absurd h (by decide), fun h => absurd h.2.2 (by decide)⟩, fun h => absurd h (by decide)⟩
  | 0, [], _, _, _, h, _, _, _ => absurd h (by simp)
  | 0, _ :: _ :: _, _, _, _, h, _, _, _ => absurd h (by simp)
  | m + 1, [], _, _, _, h, _, _, _ => absurd h (by simp)
  | m + 1, [_], _, _, _, h, _, _, _ => absurd h (by rw [List.length_singleton]; omega)
theorem od_drop {ks : List Int32} {i : Nat} (h : i + 1 < ks.length) : od_l (ks.drop i) = ks.getD (i + 1) 0 :: od_l (ks.drop (i + 2)) ∧ ev_l (ks.drop i) = ks.getD i 0 :: ev_l (ks.drop (i + 2)) := by
  rw [drop_at (x := 0) (show i < ks.length by omega), drop_at (x := 0) (show i + 1 < ks.length from h)]
  exact ⟨rfl, rfl⟩
section MChosen
variable {z : State} {l : Launch} {d : Nat} {σ : Hp} {am : Nat → Nat} {w : Wd} {Q : Outcome → Hp → Prop} {n b cap : Nat} {op kd : Int32} {ps : List Nat} {ks : List Int32}
theorem nI_2 (i : Nat) : nI i + 2 = nI (i + 2) := nI_add i 2
theorem mo_chosen {c e : Nat} (hc : CM z σ am) (hl : MLk w am) (h : NT σ n b op (nI e) ps cap ks) (he : e ≤ 1) (hlen : ps.length = 2 * c + e)
    (k1 : ¬ ((∀ k ∈ ev_l ks, sp_fits k 2) ∧ (sm_l (od_l ks) 3 0).1 = 0) → Q (.threw (am 1)) (ov σ am 7 (w.setI 1 79 1))) (k0 : (∀ k ∈ ev_l ks, sp_fits k 2) → (sm_l (od_l ks) 3 0).1 = 0 → k4 (sm_l (od_l ks) 3 0).2 → Q (.returned (some (.int (mty (sm_l (od_l ks) 3 0).2)))) (ov σ am 7 w)) :
    Go z l mt_M_chosen (d + 11) 0 [.ref (am 0), .ref n, .retAddr 0, .retAddr 0, .retAddr 0] [] (ov σ am 7 w) Q := by
  obtain ⟨N1, hlk, hlc, hty⟩ := id h
  obtain ⟨n1, n2, n3, n4, n5, n6, n7, n8, n9⟩ := N1
  have lei : ∀ i j, i ≤ 1000 → j ≤ 1000 → (nI i ≤ nI j ↔ i ≤ j) := fun i j hi hj => ⟨fun q => by
    rcases Nat.lt_or_ge j i with e | e
    · exact absurd q (nI_ge e (by omega))
    · exact e, fun q => nI_le q (by omega)⟩
  -- second pass
  have loop2 : ∀ m i s, 2 * i + 2 * m = 2 * c → k4 s → (∀ k ∈ ev_l ks, sp_fits k 2) → sm_l (od_l ks) 3 0 = sm_l (od_l (ks.drop (2 * i))) s 0 → Go z l mt_M_chosen (d + 11) 43 [.ref (am 0), .ref n, .int (nI (2 * c)), .int (mty s), .int (nI (2 * i + 1))] [] (ov σ am 7 w) Q := by
    intro m
    induction m with
    | zero =>
      intro i s hi hs hev eq9
      have cc : nI (2 * c) ≤ nI (2 * i + 1) := (lei _ _ (by omega) (by omega)).mpr (by omega)
      rcases (by omega : e = 0 ∨ e = 1) with e0 | e1
      · have ke : ¬ σ.I 64 n = 1 := by rw [n3, e0]; decide
        rw [List.drop_of_length_le (by omega)] at eq9
        have eq8 : sm_l (od_l ks) 3 0 = (0, s) := eq9
        rw [eq8] at k0
        exact cm_M_chosen_43 (d := d + 2) (b2 := b) (b6 := n) (b9 := b) (b13 := n) hc n1 n5 n1 n5 n1 (fun _ _ => k0 hev rfl hs) (fun _ q => absurd q ke) (fun _ q => absurd q ke) (fun _ q => absurd q ke) (fun _ q => absurd q ke) (fun q => absurd cc q) (fun q => absurd cc q) (fun q => absurd cc q) (fun q => absurd cc q)
      · have ke : σ.I 64 n = 1 := by rw [n3, e1]; decide
        have es : σ.I 68 n - 1 = nI (2 * c) := by
          rw [n7, hlen, e1]
          exact pk_sub (a := 2 * c + 1) (b := 1) (by omega)
        have ec : (nI (2 * c)).toNatClampNeg = 2 * c := nI_clamp (by omega)
        obtain ⟨t1, t2, t3⟩ := hty (2 * c) (by omega)
        have i2 : 2 * i = 2 * c := by omega
        rw [i2, drop_at (x := 0) (show 2 * c < ks.length by omega), List.drop_of_length_le (by omega)] at eq9
        have eq8 : sm_l (od_l ks) 3 0 = (if sp_fits (ks.getD (2 * c) 0) s then 0 else 1, if s = 3 then ks.getD (2 * c) 0 else s) := eq9
        rw [eq8] at k0 k1
        refine cm_M_chosen_43 (d := d + 2) (b2 := b) (b6 := ps.getD (2 * c) 0) (b9 := b) (b13 := n) hc n1 n5 t1 n5 n1 (fun _ q => absurd ke q) (fun _ _ => n4) (fun _ _ => by rw [es, n6]; exact vp_in_nI (by omega) (by omega)) (fun _ _ => by rw [es, ec]; exact n9 _ (by omega)) (fun _ _ => ?_) (fun q => absurd cc q) (fun q => absurd cc q) (fun q => absurd cc q) (fun q => absurd cc q)
        rw [t2]
        refine mo_same (d := d) hc hl hs t3 (fun q _ => gj_nextI (cm_M_chosen_98 (d := d + 2) hc ?_)) (fun q _ => gj_nextT (go_out (fun _ h => nomatch h) (k1 (fun q9 => ?_))))
        · exact k0 hev (if_pos q) (k4_if t3 hs)
        · have := q9.2
          rw [if_neg q] at this
          exact absurd (show (1 : Int32) = 0 from this) (by decide)
    | succ m ih =>
      intro i s hi hs hev eq9
      have cc : ¬ nI (2 * c) ≤ nI (2 * i + 1) := fun q => by have := (lei _ _ (by omega) (by omega)).mp q; omega
      obtain ⟨t1, t2, t3⟩ := hty (2 * i + 1) (by omega)
      have ei : (nI (2 * i + 1)).toNatClampNeg = 2 * i + 1 := nI_clamp (by omega)
      refine cm_M_chosen_43 (d := d + 2) (b2 := b) (b6 := n) (b9 := b) (b13 := ps.getD (2 * i + 1) 0) hc n1 n5 n1 n5 t1 (fun q => absurd q cc) (fun q => absurd q cc) (fun q => absurd q cc) (fun q => absurd q cc) (fun q => absurd q cc) (fun _ => n4) (fun _ => by rw [n6]; exact vp_in_nI (by omega) (by omega)) (fun _ => by rw [ei]; exact n9 _ (by omega)) (fun _ => ?_)
      rw [t2]
      rw [(od_drop (show 2 * i + 1 < ks.length by omega)).1] at eq9
      have eq8 : sm_l (od_l ks) 3 0 = sm_l (od_l (ks.drop (2 * i + 2))) (if s = 3 then ks.getD (2 * i + 1) 0 else s) (if sp_fits (ks.getD (2 * i + 1) 0) s then 0 else 1) := eq9
      refine mo_same (d := d) hc hl hs t3 (fun q _ => gj_nextI (cm_M_chosen_64 (d := d + 2) hc ?_)) (fun q _ => gj_nextT (go_out (fun _ h => nomatch h) (k1 (fun q9 => ?_))))
      · rw [nI_2]
        rw [if_pos q] at eq8
        exact ih (i + 1) _ (by omega) (k4_if t3 hs) hev eq8
      · have := q9.2
        rw [eq8, if_neg q, sm_one] at this
        exact absurd this (by decide)
  have loop1 : ∀ m i, 2 * i + 2 * m = 2 * c → ((∀ k ∈ ev_l ks, sp_fits k 2) ↔ ∀ k ∈ ev_l (ks.drop (2 * i)), sp_fits k 2) → Go z l mt_M_chosen (d + 11) 12 [.ref (am 0), .ref n, .int (nI (2 * c)), .int (nI (2 * i)), .retAddr 0] [] (ov σ am 7 w) Q := by
    intro m
    induction m with
    | zero =>
      intro i hi iff9
      have cc : nI (2 * c) ≤ nI (2 * i) := (lei _ _ (by omega) (by omega)).mpr (by omega)
      have hev : ∀ k ∈ ev_l ks, sp_fits k 2 := by
        refine iff9.mpr (fun k hk => ?_)
        rcases (by omega : e = 0 ∨ e = 1) with e0 | e1
        · rw [List.drop_of_length_le (by omega)] at hk
          cases hk
        · rw [drop_at (x := 0) (show 2 * i < ks.length by omega), List.drop_of_length_le (by omega)] at hk
          cases hk
      exact cm_M_chosen_12 (d := d + 2) (b2 := b) (b6 := n) hc n1 n5 n1 (fun _ => loop2 c 0 3 (by omega) (by decide) hev rfl) (fun q => absurd cc q) (fun q => absurd cc q) (fun q => absurd cc q) (fun q => absurd cc q)
    | succ m ih =>
      intro i hi iff9
      have cc : ¬ nI (2 * c) ≤ nI (2 * i) := fun q => by have := (lei _ _ (by omega) (by omega)).mp q; omega
      obtain ⟨t1, t2, t3⟩ := hty (2 * i) (by omega)
      have ei : (nI (2 * i)).toNatClampNeg = 2 * i := nI_clamp (by omega)
      refine cm_M_chosen_12 (d := d + 2) (b2 := b) (b6 := ps.getD (2 * i) 0) hc n1 n5 t1 (fun q => absurd q cc) (fun _ => n4) (fun _ => by rw [n6]; exact vp_in_nI (by omega) (by omega)) (fun _ => by rw [ei]; exact n9 _ (by omega)) (fun _ => ?_)
      rw [t2]
      rw [(od_drop (show 2 * i + 1 < ks.length by omega)).2] at iff9
      refine mo_fits (d := d + 1) (y := 2) hc hl t3 (by decide) (fun q _ => gj_nextV (cm_M_chosen_32 (d := d + 2) hc ?_)) (fun q _ => gj_nextT (go_out (fun _ h => nomatch h) (k1 (fun q9 => ?_))))
      · rw [nI_2]
        refine ih (i + 1) (by omega) (iff9.trans ⟨fun h9 k hk => h9 k (List.mem_cons_of_mem _ hk), fun h9 k hk => ?_⟩)
        rcases List.mem_cons.mp hk with e9 | e9
        · rw [e9]; exact q
        · exact h9 k e9
      · exact q ((iff9.mp q9.1) _ (List.mem_cons_self ..))
  refine cm_M_chosen (d := d + 2) hc n1 ?_
  have ew : σ.I 68 n - σ.I 64 n = nI (2 * c) := by
    rw [n7, n3, hlen]
    exact (pk_sub (a := 2 * c + e) (b := e) (by omega)).trans (by rw [Nat.add_sub_cancel])
  rw [ew]
  exact loop1 c 0 (by omega) Iff.rfl
end MChosen
