/-! ===== a list, whole; CASE ===== -/
/-- the parts of a list that is closed at n1 -/
def LF (st c : Nat) (ko : Nat → Nat) (ar : Nat → Int64) (ch : Nat → Int32) (ms : List Ex) (a n1 : Nat) : Prop := (st = 0 ∧ PN c ko ar ch ms a n1) ∨ (¬ st = 0 ∧ ∃ ps, ps.map Prod.fst = ms ∧ PS st c ko ar ch ps a n1 ∧ ∀ q ∈ ps.map Prod.snd, ar q = lN n1)
section List3
variable {z : State} {l : Launch} {σ : Hp} {ad : Nat → Nat} {op sg : Nat → Nat} {aO aS mO mS : Nat} {T : Nat → Int32} {L : Nat} {E k st cl : Nat}
variable {X : PX}
theorem rg_list (hp : PP z σ ad op sg aO aS mO mS L) (hcl : cl < 43) (hB : RB z l σ ad op sg mt_P_expression [.ref (ad 16), .int (nI (k + 1)), .retAddr 0, .retAddr 0] E 40) (hst : st < 43) (hX : RG z l σ ad op sg T L mt_P_expression [.ref (ad 16), .int (nI (k + 1)), .retAddr 0, .retAddr 0] E 40 (X (k + 1))) (hk : k < 100) {inn : Bool} {base : Nat} (hin : cl = 18 ↔ inn = true) (hbase : base = if inn = true then 1 else 0) {d : Nat} {w : Wd} {p ops n c : Nat} {ko : Nat → Nat} {Q : Outcome → Hp → Prop} (hG : GS ad op sg T L w p ops n c ko)
    (kok : ∀ ms p' o', sp_lst T L X k inn p ops = .ok (ms, p', o') → ∀ w' n1 c' ko', PF w w' → ops ≤ o' → GS ad op sg T L w' p' o' (n1 + 1) c' ko' → LF st c' ko' (w'.eJ 14) (w'.eI 15) ms n n1 → ko' n1 = cl → w'.eJ 14 n1 = lN (base + ms.length) → (∀ x, x < n → ko' x = ko x ∧ w'.eJ 14 x = w.eJ 14 x) → (∀ x, x < c → w'.eI 15 x = w.eI 15 x) → n ≤ n1 → c ≤ c' → n1 + 1 + tk_s T L p ≤ n + tk_s T L p' → c' + tk_s T L p ≤ c + tk_s T L p' → Q (.returned none) (ov σ ad 21 w'))
    (ker : ∀ e, sp_lst T L X k inn p ops = .error e → ∀ w', PF w w' → BS ad op sg w' e → Q (.returned none) (ov σ ad 21 w')) :
    Go z l mt_P_list (d + E + 41) 0 [.ref (ad 16), .int (nI k), .ref (op st), .ref (op cl), .retAddr 0, .retAddr 0, .retAddr 0, .retAddr 0] [] (ov σ ad 21 w) Q := by
  have ht := tk_le (T := T) hG.2.2.2.2.2.2.2.2.2.2.1
  have nle : n ≤ tk_s T L p := hG.2.2.2.2.2.2.2.2.1
  have cle : c ≤ tk_s T L p := hG.2.2.2.2.2.2.2.2.2.1
  refine cs_P_list (d := d + E + 32) hp.1 hp.2.1 (cg_take (d := d + E + 19) hp (by decide) hG (fun hg w1 f1 G1 _ => gj_nextV ?_) (fun hg w1 f1 B1 _ => gj_nextV ?_))
  · have h1 := ht.2.2.2.1 (by rw [hg]; decide)
    have hle := ht.2.2.2.2.2.2.2
    have ej : w1.eJ 14 = w.eJ 14 := by rw [f1.2.2.2.2.1]
    have ei : w1.eI 15 = w.eI 15 := by rw [f1.2.2.2.1]
    have L0 : LSt st c ko (w1.eJ 14) (w1.eI 15) [] n n (-1) [] := by
      by_cases h0 : st = 0
      · exact Or.inl ⟨h0, rfl, rfl, rfl⟩
      · exact Or.inr ⟨h0, [], rfl, rfl, rfl, rfl⟩
    -- the end of the list at p2
    have fin : ∀ (ms : List Ex) (p2 o2 : Nat) (w2 : Wd) (n2 c2 : Nat) (ko2 : Nat → Nat) (j2 : Int32) (qs2 : List Nat) (v7 : Int32), (if inn = false ∧ tk_g T L (tk_e T L p) = 31 then .ok ([], tk_e T L p, ops) else sp_list T L X k 8 (tk_e T L p) ops) = Except.ok (ε := Nat) (ms, p2, o2) → PF w1 w2 → ops ≤ o2 → GS ad op sg T L w2 p2 o2 n2 c2 ko2 → LSt st c2 ko2 (w2.eJ 14) (w2.eI 15) ms n n2 j2 qs2 → (∀ x, x < n → ko2 x = ko x ∧ w2.eJ 14 x = w1.eJ 14 x) → (∀ x, x < c → w2.eI 15 x = w1.eI 15 x) → n ≤ n2 → c ≤ c2 → n2 + tk_s T L (tk_e T L p) ≤ n + tk_s T L p2 + 1 → c2 + tk_s T L (tk_e T L p) ≤ c + tk_s T L p2 → ms.length ≤ 8 → Go z l mt_P_list (d + E + 41) 54 [.ref (ad 16), .int (nI k), .ref (op st), .ref (op cl), .int (nI (base + ms.length)), .int j2, .int 0, .int v7] [] (ov σ ad 21 w2) Q := by
      intro ms p2 o2 w2 n2 c2 ko2 j2 qs2 v7 hs f2 ho G2 L2 k2 kc2 hn hc hgn hgc hl8
      have ht2 := tk_le (T := T) G2.2.2.2.2.2.2.2.2.2.2.1
      have hb9 : base + ms.length ≤ 100 := by
        rw [hbase]
        split <;> omega
      have es : sp_lst T L X k inn p ops = sp_take T L 31 ms p2 o2 := by
        unfold sp_lst
        rw [if_pos hg, hs]
      have hlo := L2.lo
      refine lg_exit hp hcl hb9 G2 L2 (fun hg2 w3 f3 G3 r3 r4 => ?_) (fun hg2 w3 f3 B3 => ker _ (by rw [es]; exact if_neg hg2) w3 ((PF.nf f1).trans (f2.trans f3)) B3)
      have h2 := ht2.2.2.2.1 (by rw [hg2]; decide)
      have hle2 := ht2.2.2.2.2.2.2.2
      have nin : ∀ x, (x < n ∨ n2 ≤ x) → x ∉ qs2 := fun x hx hm => by
        have := hlo.1 x hm
        omega
      refine kok ms (tk_e T L p2) o2 (by rw [es]; exact if_pos hg2) w3 n2 c2 _ ((PF.nf f1).trans (f2.trans f3)) ho G3 ?_ (hp_up_same _ _ _) ?_ (fun x hx => ?_) (fun x hx => ?_) hn hc (by omega) (by omega)
      · rcases L2 with ⟨a, b, cc, e⟩ | ⟨a, ps, b, cc, e, ff⟩
        · refine Or.inl ⟨a, b.mono (fun x _ => by rw [r4]) (Nat.le_refl _) (fun x a1 a2 => ⟨hp_up_ne _ _ (by omega), ?_⟩)⟩
          rw [r3 x, e, if_neg List.not_mem_nil, hp_up_ne _ _ (by omega)]
        · refine Or.inr ⟨a, ps, b, cc.mono (fun x _ => by rw [r4]) (Nat.le_refl _) (fun x a1 a2 => hp_up_ne _ _ (by omega)) (fun x a1 a2 hm => ?_), fun q hq => ?_⟩
          · rw [r3 x, e, if_neg (fun q => hm (List.mem_reverse.mp q)), hp_up_ne _ _ (by omega)]
          · rw [r3 q, e, if_pos (List.mem_reverse.mpr hq)]
      · rw [r3 n2, if_neg (nin n2 (.inr (Nat.le_refl _))), hp_up_same]
      · rw [hp_up_ne _ _ (by omega), r3 x, if_neg (nin x (.inl hx)), hp_up_ne _ _ (by omega)]
        exact ⟨(k2 x hx).1, by rw [(k2 x hx).2, ej]⟩
      · rw [r4, kc2 x hx, ei]
    have more : (inn = false → ¬ tk_g T L (tk_e T L p) = 31) → Go z l mt_P_list (d + E + 41) 54 [.ref (ad 16), .int (nI k), .ref (op st), .ref (op cl), .int (nI (base + ([] : List Ex).length)), .int (-1), .int 1, .int (nI ([] : List Ex).length)] [] (ov σ ad 21 w1) Q := fun hm => by
      have e0 : (if inn = false ∧ tk_g T L (tk_e T L p) = 31 then .ok ([], tk_e T L p, ops) else sp_list T L X k 8 (tk_e T L p) ops) = sp_list T L X k 8 (tk_e T L p) ops := if_neg (fun q => hm q.1 q.2)
      refine lg_loop hp hcl hB hst hX hk (base := base) (a0 := n) (by rw [hbase]; split <;> decide) 8 [] w1 (tk_e T L p) ops n c ko (-1) [] rfl (by omega) G1 L0 (fun ms2 p2 o2 hs w2 n2 c2 ko2 j2 qs2 v7 f2 ho G2 L2 k2 kc2 hn hc hgn hgc hl8 => fin ms2 p2 o2 w2 n2 c2 ko2 j2 qs2 v7 (e0.trans hs) f2 ho G2 L2 k2 kc2 hn hc hgn hgc hl8) (fun e hs w2 f2 B2 => ker e ?_ w2 ((PF.nf f1).trans f2) B2)
      unfold sp_lst
      rw [if_pos hg, e0, hs]
    refine cs_P_list_7 (d := d + E + 32) hp.1 hp.2.1 G1.1.1 G1.2.2.2.1.2.2.2.1 (fun h h2 => absurd h2 h) (fun h _ h2 => ?_) (fun h _ h2 => ?_) (fun h _ => ?_) (fun h h2 => absurd h h2) (fun h h2 => absurd h h2)
    · have hi : ¬ inn = true := fun q => h (by rw [hin.mpr q])
      have hi2 : inn = false := by simpa using hi
      have h31 := sg_inj hp.2.1 G1.g (by decide) h2
      have e0 : (if inn = false ∧ tk_g T L (tk_e T L p) = 31 then .ok ([], tk_e T L p, ops) else sp_list T L X k 8 (tk_e T L p) ops) = Except.ok (ε := Nat) ([], tk_e T L p, ops) := if_pos ⟨hi2, h31⟩
      have := fin [] (tk_e T L p) ops w1 n c ko (-1) [] 0 e0 (PF.refl _) (Nat.le_refl _) G1 L0 (fun _ _ => ⟨rfl, rfl⟩) (fun _ _ => rfl) (Nat.le_refl _) (Nat.le_refl _) (by omega) (by omega) (by decide)
      rw [hbase, if_neg hi] at this
      exact this
    · have hi : ¬ inn = true := fun q => h (by rw [hin.mpr q])
      have := more (fun _ q => h2 (by rw [q]))
      rw [hbase, if_neg hi] at this
      exact this
    · have hi : inn = true := hin.mp (op_inj hp.2.1 hcl (by decide) h)
      have := more (fun q => absurd (q.symm.trans hi) (by decide))
      rw [hbase, if_pos hi] at this
      exact this
  · obtain ⟨b1, b2, b3, n0, ko0, b4, -, -⟩ := id B1
    have es : sp_lst T L X k inn p ops = .error (tk_s T L p) := if_neg hg
    have fin : ∀ v4 v5 v6 v7 : Int32, Go z l mt_P_list (d + E + 41) 54 [.ref (ad 16), .int (nI k), .ref (op st), .ref (op cl), .int v4, .int v5, .int v6, .int v7] [] (ov σ ad 21 w1) Q := fun v4 v5 v6 v7 => tb_list_54 hp hcl hB hst hk B1 (fun w2 f2 B2 => ker _ es w2 (f1.trans f2) B2)
    exact cs_P_list_7 (d := d + E + 32) hp.1 hp.2.1 b4.1 b1 (fun _ _ => fin _ _ _ _) (fun _ _ _ => fin _ _ _ _) (fun _ _ _ => fin _ _ _ _) (fun _ _ => fin _ _ _ _) (fun _ _ _ => fin _ _ _ _) (fun _ _ _ => fin _ _ _ _)
end List3
