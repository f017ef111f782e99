/-! ===== fields, arrays, new cells, statics, returns, throws ===== -/
section GjHeap
variable {z : State} {l : Launch} {M : Mt} {d pc : Nat} {ls st : List Value} {σ : Hp} {Q : Outcome → Hp → Prop}
/-- a row that changes the heap -/
theorem go_heap {pc2 : Nat} {st2 : List Value} {σ2 : Hp} (hw2 : hp_wf σ → hp_wf σ2) (hle2 : hp_wf σ → hp_Le σ σ2)
    (h : ∀ (p : Program) (e : Env) (R : Room) (s : State) (m : MethodId) (args : Array Value) (below : List Frame) (meth : Method) (c : Code) (la : Array Slot) (H : Heap) (locs : List Loc) (cells slots : Nat) (Q' : State → Prop), gj_Cx z l M d p R s m meth c → gj_Lv la M.nL ls → hp_Rel z σ H → (∀ q ∈ locs, z.heap.size ≤ q.base) →
      cells + (σ2.nx - σ.nx) ≤ R.cells → slots + (σ2.sl - σ.sl) ≤ R.slots →
      (∀ (H2 : Heap) (locs2 : List Loc), hp_Rel z σ2 H2 → (∀ q ∈ locs2, z.heap.size ≤ q.base) → W p l e R s m args below meth c H2 locs2 (cells + (σ2.nx - σ.nx)) (slots + (σ2.sl - σ.sl)) Q' (F0 m pc2 la st2)) → W p l e R s m args below meth c H locs cells slots Q' (F0 m pc la st))
    (k : Go z l M d pc2 ls st2 σ2 Q) : Go z l M d pc ls st σ Q := fun hw => by
  have hl2 := hle2 hw
  obtain ⟨o, σ', h1, h2, h3, h4⟩ := k (hw2 hw)
  have n1 := hl2.1
  have n2 := hl2.2.1
  have n3 := h3.1
  have n4 := h3.2.1
  exact ⟨o, σ', fun p e R s m args below meth c X la H locs cells slots mc ms hl hr hf e1 e2 e3 e4 =>
    h p e R s m args below meth c la H locs cells slots _ X hl hr hf (by omega) (by omega) fun H2 locs2 hr2 hf2 => h1 p e R s m args below meth c X la H2 locs2 _ _ mc ms hl hr2 hf2 (by omega) (by omega) e3 e4, h2, hl2.trans h3, h4⟩
theorem gj_slot {f t : Nat} (hf : f ∈ ct_flds t) (hz : gj_Zok z) : SlotIs z (ft_own f) (ft_name f) (ft_desc f) (hp_slot z f) := by
  obtain ⟨za, hz, -⟩ := hz
  have hl := hz _ (tw_in _ (ct_lay t f hf))
  have : ∃ i, SlotIs z (ft_own f) (ft_name f) (ft_desc f) i := by
    unfold ft_lay at hl
    split at hl
    · exact u_found (C := ct_name t) (Or.inr hl)
    · exact u_found (C := ct_name t) (Or.inl hl)
  obtain ⟨i, cf, kf, fi, fd, h1, h2⟩ := this
  refine ⟨cf, kf, fi, fd, h1, ?_⟩
  unfold hp_slot
  rw [h1]
theorem gj_lays {p : Program} {R : Room} {s : State} {m : MethodId} {meth : Method} {c : Code} {f t : Nat} (hf : f ∈ ct_flds t) (X : gj_Cx z l M d p R s m meth c) (args : Array Value) :
    (Cond.lays (ct_name t) (ft_own f) (ft_name f) (ft_desc f)).before args s = true ∨ (Cond.laysFinal (ct_name t) (ft_own f) (ft_name f) (ft_desc f)).before args s = true := by
  have hl := X.word (ct_lay t f hf) args
  unfold ft_lay at hl
  split at hl
  · exact Or.inr hl
  · exact Or.inl hl
theorem gj_apart {p : Program} {R : Room} {s : State} {m : MethodId} {meth : Method} {c : Code} {t f g : Nat} (hf : f ∈ ct_flds t) (hg : g ∈ ct_flds t) (hne : g ≠ f) (X : gj_Cx z l M d p R s m meth c) : hp_slot z g ≠ hp_slot z f := by
  obtain ⟨_, _, _, fa, ia, ea⟩ := slotIs_moved X.warm.alike (gj_slot hg X.zok)
  obtain ⟨_, _, _, fb, ib, eb⟩ := slotIs_moved X.warm.alike (gj_slot hf X.zok)
  rw [← ea, ← eb]
  refine u_apart (gj_lays hg X #[]) (gj_lays hf X #[]) ia ib ?_
  rw [(State.fieldFound?_type ia (ct_parse t g hg)).1, (State.fieldFound?_type ib (ct_parse t f hf)).1]
  exact ct_names t f g hf hg hne
/-- what a tag says, at this state -/
theorem gj_cell {p : Program} {R : Room} {s : State} {m : MethodId} {meth : Method} {c : Code} {H : Heap} {a t : Nat} (X : gj_Cx z l M d p R s m meth c) (hr : hp_Rel z σ H) (ht : σ.tag a = t) (h0 : t ≠ 0) (hna : ct_arr t = none ∨ z.heap.size ≤ a) :
    ∃ (cell : Cell) (kC : Class), H[a]? = some cell ∧ vm9 z a cell.vm ∧ s.vm.findClass (ct_name t) = some cell.cls ∧ s.vm.classes[cell.cls]? = some kC ∧
      (match ct_arr t with
       | none => ∀ f ∈ ct_flds t, cell.slots[hp_slot z f]? = some (hp_fv σ (ft_ty f) f a)
       | some ty => cell.slots.size = σ.len a ∧ ∀ j, j < σ.len a → cell.slots[j]? = some (hp_ev σ ty a j)) := by
  obtain ⟨cell, q1, q2, q3, q4⟩ := hr.2.2.2.1 a (by rw [ht]; exact h0)
  rw [ht] at q3 q4
  have q5 : s.vm.findClass (ct_name t) = some cell.cls := by rw [X.warm.alike.findClass]; exact q3.1 hna
  obtain ⟨kC, hk, -⟩ := Vm.findClass_spec q5
  refine ⟨cell, kC, q1, q2, q5, hk, ?_⟩
  cases hct : ct_arr t with
  | none => rw [hct] at q4; exact q4
  | some ty => rw [hct] at q4; exact ⟨q4.1.2.2 (hna.resolve_left (fun h => by rw [h] at hct; cases hct)), q4.2⟩
theorem go_getf {a t f index : Nat} {v : Value} (hw : Cond.fieldLink M.y.cls index (ft_own f) (ft_name f) (ft_desc f) ∈ tw_all) (hf : f ∈ ct_flds t) (ha : ct_arr t = none) (h0 : t ≠ 0) (hd : decode M.cc pc = .ok (.getfield index, 3)) (ht : σ.tag a = t) (hv : hp_fv σ (ft_ty f) f a = v)
    (k : Go z l M d (pc + 3) ls (v :: st) σ Q) : Go z l M d pc ls (.ref a :: st) σ Q :=
  go_lift0 (fun p e R s m args below meth c la H locs cells slots Q' X hl hr kk => by
    obtain ⟨cell, kC, q1, q2, q3, q5, q4⟩ := gj_cell X hr ht h0 (Or.inl ha)
    rw [ha] at q4
    obtain ⟨cf, kf, fi, fd, hi, hs⟩ := slotIs_moved X.warm.alike (gj_slot hf X.zok)
    exact W.getf X.1 X.2.1 X.own (X.word hw args) hi (u_facts q3 q5 (gj_lays hf X args) hi).1 q1 q2.1 (v := v) (by rw [hs, q4 f hf, hv]) (g := F0 m pc la (.ref a :: st)) rfl rfl hd kk) k
theorem go_getfN {a t f index : Nat} {host : String} {v : Value} (hw : Cond.fieldLinkNest M.y.cls index (ft_own f) (ft_name f) (ft_desc f) host ∈ lw_tbl) (hf : f ∈ ct_flds t) (ha : ct_arr t = none) (h0 : t ≠ 0) (hd : decode M.cc pc = .ok (.getfield index, 3)) (ht : σ.tag a = t) (hv : hp_fv σ (ft_ty f) f a = v)
    (k : Go z l M d (pc + 3) ls (v :: st) σ Q) : Go z l M d pc ls (.ref a :: st) σ Q :=
  go_lift0 (fun p e R s m args below meth c la H locs cells slots Q' X hl hr kk => by
    obtain ⟨cell, kC, q1, q2, q3, q5, q4⟩ := gj_cell X hr ht h0 (Or.inl ha)
    rw [ha] at q4
    obtain ⟨cf, kf, fi, fd, hi, hs⟩ := slotIs_moved X.warm.alike (gj_slot hf X.zok)
    exact va_Wgetf X.1 X.2.1 X.own (X.nestF hw args) hi (u_facts q3 q5 (gj_lays hf X args) hi).1 q1 q2.1 (v := v) (by rw [hs, q4 f hf, hv]) (g := F0 m pc la (.ref a :: st)) rfl rfl hd kk) k
/-- the value on top is written to a field; σ2 is the heap behind it -/
theorem go_putf {a t f index n : Nat} {v : Value} {σ2 : Hp} (hlk : Cond.fieldLink M.y.cls index (ft_own f) (ft_name f) (ft_desc f) ∈ tw_all) (hins : Cond.instantiable (ct_name t) n ∈ tw_all) (hf : f ∈ ct_flds t) (ha : ct_arr t = none) (h0 : t ≠ 0)
    (hfin : ft_fin f = false ∨ (ft_own f = M.y.cls ∧ M.y.name = "<init>")) (hd : decode M.cc pc = .ok (.putfield index, 3)) (ht : σ.tag a = t) (hz : z.heap.size ≤ a) (hn : narrow (ft_ty f) v = v) (hfit : fits (ft_ty f) v = true)
    (htag : σ2.tag = σ.tag) (hlen : σ2.len = σ.len) (hnx : σ2.nx = σ.nx) (hsl : σ2.sl = σ.sl) (heI : σ2.eI = σ.eI) (heJ : σ2.eJ = σ.eJ) (heA : σ2.eA = σ.eA)
    (hrest : ∀ g b, (b ≠ a ∨ g ≠ f) → σ2.I g b = σ.I g b ∧ σ2.J g b = σ.J g b ∧ σ2.A g b = σ.A g b) (hv : hp_fv σ2 (ft_ty f) f a = v) (hw2 : hp_wf σ → hp_wf σ2)
    (k : Go z l M d (pc + 3) ls st σ2 Q) : Go z l M d pc ls (v :: .ref a :: st) σ Q :=
  go_heap hw2 (fun _ => ⟨by rw [hnx]; exact Nat.le_refl _, by rw [hsl]; exact Nat.le_refl _, fun b _ => ⟨by rw [htag], by rw [hlen]⟩⟩) (fun p e R s m args below meth c la H locs cells slots Q' X hl hr hfr h1 h2 kk => by
    obtain ⟨cell, kC, q1, q2, q3, q5, q4⟩ := gj_cell X hr ht h0 (Or.inl ha)
    rw [ha] at q4
    obtain ⟨cf, kf, fi, fd, hi, hs⟩ := slotIs_moved X.warm.alike (gj_slot hf X.zok)
    obtain ⟨cC, kC', r1, r2, hkind, -⟩ := Cond.instantiable_spec (X.word hins args)
    cases q3.symm.trans r1
    cases q5.symm.trans r2
    have hst := (u_facts q3 q5 (gj_lays hf X args) hi).1
    have hlt : fd.slot < cell.slots.size := by rw [hs]; exact k2_hasslot (q4 f hf)
    have e0 : σ2.nx - σ.nx = 0 := by omega
    have e00 : σ2.sl - σ.sl = 0 := by omega
    rw [e0, e00] at kk
    have fin : ∀ H' : Heap, H'[a]? = some (cell.setSlot fd.slot v) → H'.size = H.size → (∀ q, q ≠ a → H'[q]? = H[q]?) → W p l e R s m args below meth c H' (locs ++ [⟨a, fd.slot⟩]) cells slots Q' (F0 m (pc + 3) la st) := by
      intro H' e1 e2 e3
      rw [hs] at e1
      exact kk H' _ (hr.put ht h0 ha hf hz (fun g hg hne => gj_apart hf hg hne X) q1 e1 e2 e3 htag hlen hnx heI heJ heA hrest hv) (fun q hq => by
        rcases List.mem_append.mp hq with h | h
        · exact hfr q h
        · rw [List.mem_singleton.mp h]; exact hz)
    have hlw := X.word (ct_lay t f hf) args
    unfold ft_lay at hlw
    by_cases hff : ft_fin f = true
    · rw [if_pos hff] at hlw
      obtain ⟨hown2, hinit⟩ := hfin.resolve_left (by rw [hff]; decide)
      have hcf : m.cls = cf := by
        obtain ⟨_, _, c', _, _, _, -, -, hf', -, -, -, hown3, -⟩ := Cond.laysFinal_spec hlw
        have e1 : c' = cf := by have := hi.symm.trans hf'; simp at this; exact this.1.symm
        rw [hown2] at hown3
        rw [← e1]; exact Option.some.inj (X.own.symm.trans hown3)
      have h6 := u_fits q3 q5 hkind (Or.inr hlw) hi (ct_parse t f hf) hn hfit
      exact W.putFinK X.1 X.2.1 X.own (X.word hlk args) hi hst hcf (X.2.2.2.2.2.2.1.trans hinit) h6 q1 (q2.2.2 hz) hlt (g := F0 m pc la (v :: .ref a :: st)) rfl rfl hd fin
    · rw [if_neg hff] at hlw
      have h6 := u_store q3 q5 hkind hlw hi (ct_parse t f hf) hn hfit
      exact W.putK X.1 X.2.1 (f := fd) ⟨X.own, X.word hlk args, ⟨_, _, _, hi⟩, hst⟩ h6 q1 (q2.2.2 hz) hlt (g := F0 m pc la (v :: .ref a :: st)) rfl rfl hd fin) k
theorem go_putfN {a t f index n : Nat} {host : String} {v : Value} {σ2 : Hp} (hlk : Cond.fieldLinkNest M.y.cls index (ft_own f) (ft_name f) (ft_desc f) host ∈ lw_tbl) (hins : Cond.instantiable (ct_name t) n ∈ tw_all) (hf : f ∈ ct_flds t) (ha : ct_arr t = none) (h0 : t ≠ 0)
    (hfin : ft_fin f = false) (hd : decode M.cc pc = .ok (.putfield index, 3)) (ht : σ.tag a = t) (hz : z.heap.size ≤ a) (hn : narrow (ft_ty f) v = v) (hfit : fits (ft_ty f) v = true)
    (htag : σ2.tag = σ.tag) (hlen : σ2.len = σ.len) (hnx : σ2.nx = σ.nx) (hsl : σ2.sl = σ.sl) (heI : σ2.eI = σ.eI) (heJ : σ2.eJ = σ.eJ) (heA : σ2.eA = σ.eA)
    (hrest : ∀ g b, (b ≠ a ∨ g ≠ f) → σ2.I g b = σ.I g b ∧ σ2.J g b = σ.J g b ∧ σ2.A g b = σ.A g b) (hv : hp_fv σ2 (ft_ty f) f a = v) (hw2 : hp_wf σ → hp_wf σ2)
    (k : Go z l M d (pc + 3) ls st σ2 Q) : Go z l M d pc ls (v :: .ref a :: st) σ Q :=
  go_heap hw2 (fun _ => ⟨by rw [hnx]; exact Nat.le_refl _, by rw [hsl]; exact Nat.le_refl _, fun b _ => ⟨by rw [htag], by rw [hlen]⟩⟩) (fun p e R s m args below meth c la H locs cells slots Q' X hl hr hfr h1 h2 kk => by
    obtain ⟨cell, kC, q1, q2, q3, q5, q4⟩ := gj_cell X hr ht h0 (Or.inl ha)
    rw [ha] at q4
    obtain ⟨cf, kf, fi, fd, hi, hs⟩ := slotIs_moved X.warm.alike (gj_slot hf X.zok)
    obtain ⟨cC, kC', r1, r2, hkind, -⟩ := Cond.instantiable_spec (X.word hins args)
    cases q3.symm.trans r1
    cases q5.symm.trans r2
    have hst := (u_facts q3 q5 (gj_lays hf X args) hi).1
    have hlt : fd.slot < cell.slots.size := by rw [hs]; exact k2_hasslot (q4 f hf)
    have e0 : σ2.nx - σ.nx = 0 := by omega
    have e00 : σ2.sl - σ.sl = 0 := by omega
    rw [e0, e00] at kk
    have hlw := X.word (ct_lay t f hf) args
    unfold ft_lay at hlw
    rw [if_neg (by rw [hfin]; decide)] at hlw
    have h6 := u_store q3 q5 hkind hlw hi (ct_parse t f hf) hn hfit
    refine va_WputK X.1 X.2.1 (f := fd) X.own (X.nestF hlk args) hi hst h6 q1 (q2.2.2 hz) hlt (g := F0 m pc la (v :: .ref a :: st)) rfl rfl hd fun H' e1 e2 e3 => ?_
    rw [hs] at e1
    exact kk H' _ (hr.put ht h0 ha hf hz (fun g hg hne => gj_apart hf hg hne X) q1 e1 e2 e3 htag hlen hnx heI heJ heA hrest hv) (fun q hq => by
      rcases List.mem_append.mp hq with h | h
      · exact hfr q h
      · rw [List.mem_singleton.mp h]; exact hz)) k
end GjHeap
section GjPut
variable {z : State} {l : Launch} {M : Mt} {d pc : Nat} {ls st : List Value} {σ : Hp} {Q : Outcome → Hp → Prop}
theorem go_putI {a t f index n : Nat} {x : Int32} (hlk : Cond.fieldLink M.y.cls index (ft_own f) (ft_name f) (ft_desc f) ∈ tw_all) (hins : Cond.instantiable (ct_name t) n ∈ tw_all) (hf : f ∈ ct_flds t) (ha : ct_arr t = none) (h0 : t ≠ 0)
    (hfin : ft_fin f = false ∨ (ft_own f = M.y.cls ∧ M.y.name = "<init>")) (hd : decode M.cc pc = .ok (.putfield index, 3)) (hty : ∀ τ : Hp, hp_fv τ (ft_ty f) f a = .int (τ.I f a)) (hfit : fits (ft_ty f) (.int x) = true) (ht : σ.tag a = t) (hz : z.heap.size ≤ a) (hn : narrow (ft_ty f) (.int x) = .int x)
    (k : Go z l M d (pc + 3) ls st (σ.setI f a x) Q) : Go z l M d pc ls (.int x :: .ref a :: st) σ Q :=
  go_putf (σ2 := σ.setI f a x) hlk hins hf ha h0 hfin hd ht hz hn hfit rfl rfl rfl rfl rfl rfl rfl (fun g b h => ⟨h.elim (fun q => up2_ne _ _ q) (fun q => up2_nf _ _ q), rfl, rfl⟩) (by rw [hty]; exact congrArg _ (up2_same _ _ _ _)) (fun hw => hw.setI (hw.lt (by rw [ht]; exact h0)) x) k
theorem go_putJ {a t f index n : Nat} {x : Int64} (hlk : Cond.fieldLink M.y.cls index (ft_own f) (ft_name f) (ft_desc f) ∈ tw_all) (hins : Cond.instantiable (ct_name t) n ∈ tw_all) (hf : f ∈ ct_flds t) (ha : ct_arr t = none) (h0 : t ≠ 0)
    (hfin : ft_fin f = false ∨ (ft_own f = M.y.cls ∧ M.y.name = "<init>")) (hd : decode M.cc pc = .ok (.putfield index, 3)) (hty : ft_ty f = .long) (ht : σ.tag a = t) (hz : z.heap.size ≤ a)
    (k : Go z l M d (pc + 3) ls st (σ.setJ f a x) Q) : Go z l M d pc ls (.long x :: .ref a :: st) σ Q :=
  go_putf (σ2 := σ.setJ f a x) hlk hins hf ha h0 hfin hd ht hz (by rw [hty]; rfl) (by rw [hty]; rfl) rfl rfl rfl rfl rfl rfl rfl (fun g b h => ⟨rfl, h.elim (fun q => up2_ne _ _ q) (fun q => up2_nf _ _ q), rfl⟩) (by rw [hty]; exact congrArg _ (up2_same _ _ _ _)) (fun hw => hw.setJ (hw.lt (by rw [ht]; exact h0)) x) k
theorem go_putA {a t f index n : Nat} {x : Option Nat} (hlk : Cond.fieldLink M.y.cls index (ft_own f) (ft_name f) (ft_desc f) ∈ tw_all) (hins : Cond.instantiable (ct_name t) n ∈ tw_all) (hf : f ∈ ct_flds t) (ha : ct_arr t = none) (h0 : t ≠ 0)
    (hfin : ft_fin f = false ∨ (ft_own f = M.y.cls ∧ M.y.name = "<init>")) (hd : decode M.cc pc = .ok (.putfield index, 3)) (hty : ∀ τ : Hp, hp_fv τ (ft_ty f) f a = va_rf (τ.A f a)) (hrf : (ft_ty f).isReference = true) (ht : σ.tag a = t) (hz : z.heap.size ≤ a)
    (k : Go z l M d (pc + 3) ls st (σ.setA f a x) Q) : Go z l M d pc ls (va_rf x :: .ref a :: st) σ Q :=
  go_putf (σ2 := σ.setA f a x) hlk hins hf ha h0 hfin hd ht hz (by cases hc : ft_ty f <;> rw [hc] at hrf <;> first | (cases x <;> rfl) | cases hrf) (by cases hc : ft_ty f <;> rw [hc] at hrf <;> first | (cases x <;> rfl) | cases hrf) rfl rfl rfl rfl rfl rfl rfl (fun g b h => ⟨rfl, rfl, h.elim (fun q => up2_ne _ _ q) (fun q => up2_nf _ _ q)⟩) (by rw [hty]; exact congrArg _ (up2_same _ _ _ _)) (fun hw => hw.setA (hw.lt (by rw [ht]; exact h0)) x) k
theorem go_putNI {a t f index n : Nat} {host : String} {x : Int32} (hlk : Cond.fieldLinkNest M.y.cls index (ft_own f) (ft_name f) (ft_desc f) host ∈ lw_tbl) (hins : Cond.instantiable (ct_name t) n ∈ tw_all) (hf : f ∈ ct_flds t) (ha : ct_arr t = none) (h0 : t ≠ 0)
    (hfin : ft_fin f = false) (hd : decode M.cc pc = .ok (.putfield index, 3)) (hty : ∀ τ : Hp, hp_fv τ (ft_ty f) f a = .int (τ.I f a)) (hfit : fits (ft_ty f) (.int x) = true) (ht : σ.tag a = t) (hz : z.heap.size ≤ a) (hn : narrow (ft_ty f) (.int x) = .int x)
    (k : Go z l M d (pc + 3) ls st (σ.setI f a x) Q) : Go z l M d pc ls (.int x :: .ref a :: st) σ Q :=
  go_putfN (σ2 := σ.setI f a x) hlk hins hf ha h0 hfin hd ht hz hn hfit rfl rfl rfl rfl rfl rfl rfl (fun g b h => ⟨h.elim (fun q => up2_ne _ _ q) (fun q => up2_nf _ _ q), rfl, rfl⟩) (by rw [hty]; exact congrArg _ (up2_same _ _ _ _)) (fun hw => hw.setI (hw.lt (by rw [ht]; exact h0)) x) k
theorem go_putNJ {a t f index n : Nat} {host : String} {x : Int64} (hlk : Cond.fieldLinkNest M.y.cls index (ft_own f) (ft_name f) (ft_desc f) host ∈ lw_tbl) (hins : Cond.instantiable (ct_name t) n ∈ tw_all) (hf : f ∈ ct_flds t) (ha : ct_arr t = none) (h0 : t ≠ 0)
    (hfin : ft_fin f = false) (hd : decode M.cc pc = .ok (.putfield index, 3)) (hty : ft_ty f = .long) (ht : σ.tag a = t) (hz : z.heap.size ≤ a)
    (k : Go z l M d (pc + 3) ls st (σ.setJ f a x) Q) : Go z l M d pc ls (.long x :: .ref a :: st) σ Q :=
  go_putfN (σ2 := σ.setJ f a x) hlk hins hf ha h0 hfin hd ht hz (by rw [hty]; rfl) (by rw [hty]; rfl) rfl rfl rfl rfl rfl rfl rfl (fun g b h => ⟨rfl, h.elim (fun q => up2_ne _ _ q) (fun q => up2_nf _ _ q), rfl⟩) (by rw [hty]; exact congrArg _ (up2_same _ _ _ _)) (fun hw => hw.setJ (hw.lt (by rw [ht]; exact h0)) x) k
theorem go_putNA {a t f index n : Nat} {host : String} {x : Option Nat} (hlk : Cond.fieldLinkNest M.y.cls index (ft_own f) (ft_name f) (ft_desc f) host ∈ lw_tbl) (hins : Cond.instantiable (ct_name t) n ∈ tw_all) (hf : f ∈ ct_flds t) (ha : ct_arr t = none) (h0 : t ≠ 0)
    (hfin : ft_fin f = false) (hd : decode M.cc pc = .ok (.putfield index, 3)) (hty : ∀ τ : Hp, hp_fv τ (ft_ty f) f a = va_rf (τ.A f a)) (hrf : (ft_ty f).isReference = true) (ht : σ.tag a = t) (hz : z.heap.size ≤ a)
    (k : Go z l M d (pc + 3) ls st (σ.setA f a x) Q) : Go z l M d pc ls (va_rf x :: .ref a :: st) σ Q :=
  go_putfN (σ2 := σ.setA f a x) hlk hins hf ha h0 hfin hd ht hz (by cases hc : ft_ty f <;> rw [hc] at hrf <;> first | (cases x <;> rfl) | cases hrf) (by cases hc : ft_ty f <;> rw [hc] at hrf <;> first | (cases x <;> rfl) | cases hrf) rfl rfl rfl rfl rfl rfl rfl (fun g b h => ⟨rfl, rfl, h.elim (fun q => up2_ne _ _ q) (fun q => up2_nf _ _ q)⟩) (by rw [hty]; exact congrArg _ (up2_same _ _ _ _)) (fun hw => hw.setA (hw.lt (by rw [ht]; exact h0)) x) k
end GjPut
section GjArr
variable {z : State} {l : Launch} {M : Mt} {d pc : Nat} {ls st : List Value} {σ : Hp} {Q : Outcome → Hp → Prop}
theorem gj_az {t : Nat} {ty : FieldType} (ht : ct_arr t = some ty) (hz : gj_Zok z) : ∃ c k comp, z.vm.findClass (ct_name t) = some c ∧ z.vm.classes[c]? = some k ∧ k.kind = .array comp ty ∧ ∀ C, ty = .object C → z.vm.findClass C = some comp := by
  obtain ⟨za, hz, -⟩ := hz
  obtain ⟨hw, hnm⟩ := ct_aword t ty ht
  rw [hnm]
  have h := hz _ hw
  unfold ct_aw at h
  split at h
  next C =>
    obtain ⟨comp, c, k, h1, -, h2, h3, h4⟩ := Cond.arrayOver_spec h
    exact ⟨c, k, comp, h4, h2, h3, fun C' e => by cases e; exact h1⟩
  next hno =>
    obtain ⟨c, k, comp, h1, h2, h3⟩ := Cond.arrayClass_spec h
    exact ⟨c, k, comp, h1, h2, h3, fun C e => absurd e (hno C)⟩
/-- an array's class, by its name -/
theorem gj_isArr {p : Program} {R : Room} {s : State} {m : MethodId} {meth : Method} {c : Code} {t : Nat} {ty : FieldType} {cell : Cell} (ht : ct_arr t = some ty) (X : gj_Cx z l M d p R s m meth c) (hvm : cell.vm.isStatics = false) (hfc : s.vm.findClass (ct_name t) = some cell.cls) :
    ∃ (k : Class) (comp : ClassId), s.vm.classes[cell.cls]? = some k ∧ k.kind = .array comp ty ∧ s.isArrayOf cell ty ∧ ∀ C, ty = .object C → s.vm.findClass C = some comp := by
  obtain ⟨c0, k0, comp, h1, h2, h3, h4⟩ := gj_az ht X.zok
  rw [X.warm.alike.findClass] at hfc
  cases h1.symm.trans hfc
  obtain ⟨k', hk', he⟩ := X.warm.alike.2.2 _ _ h2
  have hk3 : k'.kind = .array comp ty := by rw [he]; exact h3
  exact ⟨k', comp, hk', hk3, ⟨fun k h => (by rw [h] at hvm; cases hvm), k', hk', comp, hk3⟩, fun C e => by rw [X.warm.alike.findClass]; exact h4 C e⟩
theorem gj_arr {p : Program} {R : Room} {s : State} {m : MethodId} {meth : Method} {c : Code} {H : Heap} {a t : Nat} {ty : FieldType} (X : gj_Cx z l M d p R s m meth c) (hr : hp_Rel z σ H) (ht : σ.tag a = t) (h0 : t ≠ 0) (ha : ct_arr t = some ty) :
    ∃ cell : Cell, H[a]? = some cell ∧ vm9 z a cell.vm ∧ s.isArrayOf cell ty ∧ hp_ln z a (σ.len a) cell ∧ ∀ j, j < σ.len a → cell.slots[j]? = some (hp_ev σ ty a j) := by
  obtain ⟨cell, q1, q2, q3, q4⟩ := hr.2.2.2.1 a (by rw [ht]; exact h0)
  rw [ht] at q3 q4
  rw [ha] at q4
  obtain ⟨g1, k0, h2, comp, h3⟩ := q3.2 ty ha
  obtain ⟨k', hk', he⟩ := X.warm.alike.2.2 _ _ h2
  exact ⟨cell, q1, q2, ⟨g1, k', hk', comp, by rw [he]; exact h3⟩, q4⟩
/-- the class of a new array -/
theorem hp_cl.arr {a t : Nat} {ty : FieldType} {cell : Cell} (ha : ct_arr t = some ty) (hz : gj_Zok z) (hvm : cell.vm.isStatics = false) (hfc : z.vm.findClass (ct_name t) = some cell.cls) : hp_cl z a t cell := by
  obtain ⟨c0, k0, comp, h1, h2, h3, -⟩ := gj_az ha hz
  cases h1.symm.trans hfc
  refine ⟨fun _ => hfc, fun ty9 h9 => ?_⟩
  cases Option.some.inj (ha.symm.trans h9)
  exact ⟨fun k h => (by rw [h] at hvm; cases hvm), k0, h2, comp, h3⟩
theorem hp_cl.obj {a t : Nat} {cell : Cell} (ha : ct_arr t = none) (hfc : z.vm.findClass (ct_name t) = some cell.cls) : hp_cl z a t cell := ⟨fun _ => hfc, fun ty h => nomatch ha.symm.trans h⟩
theorem gj_tn21 {t : Nat} {ty : FieldType} (ha : ct_arr t = some ty) (hne : ty ≠ .byte) : t ≠ 21 := fun e => by
  subst e
  exact hne (Option.some.inj (ha.symm.trans (show ct_arr 21 = some .byte by decide +kernel)))
theorem go_alen {a t : Nat} {ty : FieldType} (ha : ct_arr t = some ty) (h0 : t ≠ 0) (hd : decode M.cc pc = .ok (.arraylength, 1)) (ht : σ.tag a = t) {n : Nat} (hn : σ.len a = n) (k : Go z l M d (pc + 1) ls (.int (nI n) :: st) σ Q) : Go z l M d pc ls (.ref a :: st) σ Q :=
  go_lift0 (fun p e R s m args below meth c la H locs cells slots Q' X hl hr kk => by
    obtain ⟨cell, q1, q2, harr, q4⟩ := gj_arr X hr ht h0 ha
    exact W.alen X.1 X.2.1 (n := nI n) q1 harr (by rw [q4.1.2.1, hn]) (g := F0 m pc la (.ref a :: st)) rfl rfl hd kk) k
theorem go_iald {a t : Nat} {j : Int32} (ha : ct_arr t = some .int) (h0 : t ≠ 0) (hd : decode M.cc pc = .ok (.iaload, 1)) (ht : σ.tag a = t) (hin : vp_in j (σ.len a)) (k : Go z l M d (pc + 1) ls (.int (σ.eI a j.toNatClampNeg) :: st) σ Q) : Go z l M d pc ls (.int j :: .ref a :: st) σ Q :=
  go_lift0 (fun p e R s m args below meth c la H locs cells slots Q' X hl hr kk => by
    obtain ⟨cell, q1, q2, harr, q4⟩ := gj_arr X hr ht h0 ha
    have hlt : j.toNatClampNeg < σ.len a := Nat.not_le.mp fun q => hin (Or.inr q)
    exact W.iald X.1 X.2.1 q1 harr q2.1 (q4.1.vin hin) (v := .int (σ.eI a j.toNatClampNeg)) (q4.2 _ hlt) (g := F0 m pc la (.int j :: .ref a :: st)) rfl rfl hd kk) k
theorem go_bald {a t : Nat} {j : Int32} (ha : ct_arr t = some .byte) (h0 : t ≠ 0) (hd : decode M.cc pc = .ok (.baload, 1)) (ht : σ.tag a = t) (hin : vp_in j (σ.len a)) (k : Go z l M d (pc + 1) ls (.int (σ.eI a j.toNatClampNeg) :: st) σ Q) : Go z l M d pc ls (.int j :: .ref a :: st) σ Q :=
  go_lift0 (fun p e R s m args below meth c la H locs cells slots Q' X hl hr kk => by
    obtain ⟨cell, q1, q2, harr, q4⟩ := gj_arr X hr ht h0 ha
    have hlt : j.toNatClampNeg < σ.len a := Nat.not_le.mp fun q => hin (Or.inr q)
    exact W.bald X.1 X.2.1 q1 harr q2.1 (q4.1.vin hin) (v := .int (σ.eI a j.toNatClampNeg)) (q4.2 _ hlt) (g := F0 m pc la (.int j :: .ref a :: st)) rfl rfl hd kk) k
theorem go_zald {a t : Nat} {j : Int32} (ha : ct_arr t = some .boolean) (h0 : t ≠ 0) (hd : decode M.cc pc = .ok (.baload, 1)) (ht : σ.tag a = t) (hin : vp_in j (σ.len a)) (k : Go z l M d (pc + 1) ls (.int (σ.eI a j.toNatClampNeg) :: st) σ Q) : Go z l M d pc ls (.int j :: .ref a :: st) σ Q :=
  go_lift0 (fun p e R s m args below meth c la H locs cells slots Q' X hl hr kk => by
    obtain ⟨cell, q1, q2, harr, q4⟩ := gj_arr X hr ht h0 ha
    have hlt : j.toNatClampNeg < σ.len a := Nat.not_le.mp fun q => hin (Or.inr q)
    exact W.zald X.1 X.2.1 q1 harr q2.1 (q4.1.vin hin) (v := .int (σ.eI a j.toNatClampNeg)) (q4.2 _ hlt) (g := F0 m pc la (.int j :: .ref a :: st)) rfl rfl hd kk) k
theorem go_cald {a t : Nat} {j : Int32} (ha : ct_arr t = some .char) (h0 : t ≠ 0) (hd : decode M.cc pc = .ok (.caload, 1)) (ht : σ.tag a = t) (hin : vp_in j (σ.len a)) (k : Go z l M d (pc + 1) ls (.int (σ.eI a j.toNatClampNeg) :: st) σ Q) : Go z l M d pc ls (.int j :: .ref a :: st) σ Q :=
  go_lift0 (fun p e R s m args below meth c la H locs cells slots Q' X hl hr kk => by
    obtain ⟨cell, q1, q2, harr, q4⟩ := gj_arr X hr ht h0 ha
    have hlt : j.toNatClampNeg < σ.len a := Nat.not_le.mp fun q => hin (Or.inr q)
    exact W.cald X.1 X.2.1 q1 harr q2.1 (q4.1.vin hin) (v := .int (σ.eI a j.toNatClampNeg)) (q4.2 _ hlt) (g := F0 m pc la (.int j :: .ref a :: st)) rfl rfl hd kk) k
theorem go_lald {a t : Nat} {j : Int32} (ha : ct_arr t = some .long) (h0 : t ≠ 0) (hd : decode M.cc pc = .ok (.laload, 1)) (ht : σ.tag a = t) (hin : vp_in j (σ.len a)) (k : Go z l M d (pc + 1) ls (.long (σ.eJ a j.toNatClampNeg) :: st) σ Q) : Go z l M d pc ls (.int j :: .ref a :: st) σ Q :=
  go_lift0 (fun p e R s m args below meth c la H locs cells slots Q' X hl hr kk => by
    obtain ⟨cell, q1, q2, harr, q4⟩ := gj_arr X hr ht h0 ha
    have hlt : j.toNatClampNeg < σ.len a := Nat.not_le.mp fun q => hin (Or.inr q)
    exact W.lald X.1 X.2.1 q1 harr q2.1 (q4.1.vin hin) (v := .long (σ.eJ a j.toNatClampNeg)) (q4.2 _ hlt) (g := F0 m pc la (.int j :: .ref a :: st)) rfl rfl hd kk) k
theorem go_aald {a t : Nat} {C : String} {j : Int32} (ha : ct_arr t = some (.object C)) (h0 : t ≠ 0) (hd : decode M.cc pc = .ok (.aaload, 1)) (ht : σ.tag a = t) (hin : vp_in j (σ.len a)) (k : Go z l M d (pc + 1) ls (va_rf (σ.eA a j.toNatClampNeg) :: st) σ Q) : Go z l M d pc ls (.int j :: .ref a :: st) σ Q :=
  go_lift0 (fun p e R s m args below meth c la H locs cells slots Q' X hl hr kk => by
    obtain ⟨cell, q1, q2, harr, q4⟩ := gj_arr X hr ht h0 ha
    have hlt : j.toNatClampNeg < σ.len a := Nat.not_le.mp fun q => hin (Or.inr q)
    exact W.aald X.1 X.2.1 q1 harr rfl q2.1 (q4.1.vin hin) (v := va_rf (σ.eA a j.toNatClampNeg)) (q4.2 _ hlt) (g := F0 m pc la (.int j :: .ref a :: st)) rfl rfl hd kk) k
theorem go_iast {a t : Nat} {j : Int32} {x : Int32} (ha : ct_arr t = some .int) (h0 : t ≠ 0) (hd : decode M.cc pc = .ok (.iastore, 1)) (ht : σ.tag a = t) (hz : z.heap.size ≤ a) (hin : vp_in j (σ.len a)) (k : Go z l M d (pc + 1) ls st (σ.rowI a (va_up (σ.eI a) j.toNatClampNeg (x))) Q) : Go z l M d pc ls (.int x :: .int j :: .ref a :: st) σ Q := by
  have hlt : j.toNatClampNeg < σ.len a := Nat.not_le.mp fun q => hin (Or.inr q)
  refine go_heap (fun hw => hw.rowI (hw.lt (by rw [ht]; exact h0)) _ (fun h9 => absurd (ht.symm.trans h9) (gj_tn21 ha (by decide)))) (fun _ => hp_Le.rowI σ a _) (fun p e R s m args below meth c la H locs cells slots Q' X hl hr hfr h1 h2 kk => ?_) k
  rw [show ∀ g, (σ.rowI a g).nx - σ.nx = 0 from fun _ => Nat.sub_self _, show ∀ g, (σ.rowI a g).sl - σ.sl = 0 from fun _ => Nat.sub_self _] at kk
  obtain ⟨cell, kC, q1, q2, q3, q5, q4⟩ := gj_cell X hr ht h0 (Or.inr hz)
  rw [ha] at q4
  obtain ⟨-, -, -, -, harr, -⟩ := gj_isArr ha X q2.2.1 q3
  have hrow : ∀ b i, (b ≠ a ∨ i ≠ j.toNatClampNeg) → va_up σ.eI a (va_up (σ.eI a) j.toNatClampNeg (x)) b i = σ.eI b i := by
    intro b i hb
    by_cases hba : b = a
    · subst hba
      rw [hp_up_same]
      exact hp_up_ne _ _ (hb.resolve_left fun q => q rfl)
    · rw [hp_up_ne _ _ hba]
  refine W.iast X.1 X.2.1 q1 harr q2.1 (by rw [q4.1]; exact hin) (g := F0 m pc la (.int x :: .int j :: .ref a :: st)) rfl rfl hd fun H' e1 e2 e3 => ?_
  refine kk H' _ (hr.store ht h0 ha hz hlt q1 e1 e2 e3 rfl rfl rfl rfl rfl rfl (fun b i hb => ⟨hrow b i hb, rfl, rfl⟩) ?_) (fun q hq => ?_)
  · show Value.int (va_up σ.eI a _ a _) = _
    rw [hp_up_same, hp_up_same]
  · rcases List.mem_append.mp hq with h | h
    · exact hfr q h
    · rw [List.mem_singleton.mp h]; exact hz
theorem go_bast {a t : Nat} {j : Int32} {x : Int32} (ha : ct_arr t = some .byte) (h0 : t ≠ 0) (hd : decode M.cc pc = .ok (.bastore, 1)) (ht : σ.tag a = t) (hz : z.heap.size ≤ a) (hin : vp_in j (σ.len a)) (k : Go z l M d (pc + 1) ls st (σ.rowI a (va_up (σ.eI a) j.toNatClampNeg (vp_nar .byte x))) Q) : Go z l M d pc ls (.int x :: .int j :: .ref a :: st) σ Q := by
  have hlt : j.toNatClampNeg < σ.len a := Nat.not_le.mp fun q => hin (Or.inr q)
  refine go_heap (fun hw => hw.rowI (hw.lt (by rw [ht]; exact h0)) _ (fun h9 i => by
    by_cases e : i = j.toNatClampNeg
    · rw [e, hp_up_same]; exact isB_nar x
    · rw [hp_up_ne _ _ e]; exact hw.2 a h9 i)) (fun _ => hp_Le.rowI σ a _) (fun p e R s m args below meth c la H locs cells slots Q' X hl hr hfr h1 h2 kk => ?_) k
  rw [show ∀ g, (σ.rowI a g).nx - σ.nx = 0 from fun _ => Nat.sub_self _, show ∀ g, (σ.rowI a g).sl - σ.sl = 0 from fun _ => Nat.sub_self _] at kk
  obtain ⟨cell, kC, q1, q2, q3, q5, q4⟩ := gj_cell X hr ht h0 (Or.inr hz)
  rw [ha] at q4
  obtain ⟨-, -, -, -, harr, -⟩ := gj_isArr ha X q2.2.1 q3
  have hrow : ∀ b i, (b ≠ a ∨ i ≠ j.toNatClampNeg) → va_up σ.eI a (va_up (σ.eI a) j.toNatClampNeg (vp_nar .byte x)) b i = σ.eI b i := by
    intro b i hb
    by_cases hba : b = a
    · subst hba
      rw [hp_up_same]
      exact hp_up_ne _ _ (hb.resolve_left fun q => q rfl)
    · rw [hp_up_ne _ _ hba]
  refine W.bast X.1 X.2.1 q1 harr q2.1 (by rw [q4.1]; exact hin) (g := F0 m pc la (.int x :: .int j :: .ref a :: st)) rfl rfl hd fun H' e1 e2 e3 => ?_
  refine kk H' _ (hr.store ht h0 ha hz hlt q1 e1 e2 e3 rfl rfl rfl rfl rfl rfl (fun b i hb => ⟨hrow b i hb, rfl, rfl⟩) ?_) (fun q hq => ?_)
  · show Value.int (va_up σ.eI a _ a _) = _
    rw [hp_up_same, hp_up_same]
    rfl
  · rcases List.mem_append.mp hq with h | h
    · exact hfr q h
    · rw [List.mem_singleton.mp h]; exact hz
theorem go_zast {a t : Nat} {j : Int32} {x : Int32} (ha : ct_arr t = some .boolean) (h0 : t ≠ 0) (hd : decode M.cc pc = .ok (.bastore, 1)) (ht : σ.tag a = t) (hz : z.heap.size ≤ a) (hin : vp_in j (σ.len a)) (k : Go z l M d (pc + 1) ls st (σ.rowI a (va_up (σ.eI a) j.toNatClampNeg (vp_nar .boolean x))) Q) : Go z l M d pc ls (.int x :: .int j :: .ref a :: st) σ Q := by
  have hlt : j.toNatClampNeg < σ.len a := Nat.not_le.mp fun q => hin (Or.inr q)
  refine go_heap (fun hw => hw.rowI (hw.lt (by rw [ht]; exact h0)) _ (fun h9 => absurd (ht.symm.trans h9) (gj_tn21 ha (by decide)))) (fun _ => hp_Le.rowI σ a _) (fun p e R s m args below meth c la H locs cells slots Q' X hl hr hfr h1 h2 kk => ?_) k
  rw [show ∀ g, (σ.rowI a g).nx - σ.nx = 0 from fun _ => Nat.sub_self _, show ∀ g, (σ.rowI a g).sl - σ.sl = 0 from fun _ => Nat.sub_self _] at kk
  obtain ⟨cell, kC, q1, q2, q3, q5, q4⟩ := gj_cell X hr ht h0 (Or.inr hz)
  rw [ha] at q4
  obtain ⟨-, -, -, -, harr, -⟩ := gj_isArr ha X q2.2.1 q3
  have hrow : ∀ b i, (b ≠ a ∨ i ≠ j.toNatClampNeg) → va_up σ.eI a (va_up (σ.eI a) j.toNatClampNeg (vp_nar .boolean x)) b i = σ.eI b i := by
    intro b i hb
    by_cases hba : b = a
    · subst hba
      rw [hp_up_same]
      exact hp_up_ne _ _ (hb.resolve_left fun q => q rfl)
    · rw [hp_up_ne _ _ hba]
  refine W.zast X.1 X.2.1 q1 harr q2.1 (by rw [q4.1]; exact hin) (g := F0 m pc la (.int x :: .int j :: .ref a :: st)) rfl rfl hd fun H' e1 e2 e3 => ?_
  refine kk H' _ (hr.store ht h0 ha hz hlt q1 e1 e2 e3 rfl rfl rfl rfl rfl rfl (fun b i hb => ⟨hrow b i hb, rfl, rfl⟩) ?_) (fun q hq => ?_)
  · show Value.int (va_up σ.eI a _ a _) = _
    rw [hp_up_same, hp_up_same]
    rfl
  · rcases List.mem_append.mp hq with h | h
    · exact hfr q h
    · rw [List.mem_singleton.mp h]; exact hz
theorem go_cast {a t : Nat} {j : Int32} {x : Int32} (ha : ct_arr t = some .char) (h0 : t ≠ 0) (hd : decode M.cc pc = .ok (.castore, 1)) (ht : σ.tag a = t) (hz : z.heap.size ≤ a) (hin : vp_in j (σ.len a)) (k : Go z l M d (pc + 1) ls st (σ.rowI a (va_up (σ.eI a) j.toNatClampNeg (vp_nar .char x))) Q) : Go z l M d pc ls (.int x :: .int j :: .ref a :: st) σ Q := by
  have hlt : j.toNatClampNeg < σ.len a := Nat.not_le.mp fun q => hin (Or.inr q)
  refine go_heap (fun hw => hw.rowI (hw.lt (by rw [ht]; exact h0)) _ (fun h9 => absurd (ht.symm.trans h9) (gj_tn21 ha (by decide)))) (fun _ => hp_Le.rowI σ a _) (fun p e R s m args below meth c la H locs cells slots Q' X hl hr hfr h1 h2 kk => ?_) k
  rw [show ∀ g, (σ.rowI a g).nx - σ.nx = 0 from fun _ => Nat.sub_self _, show ∀ g, (σ.rowI a g).sl - σ.sl = 0 from fun _ => Nat.sub_self _] at kk
  obtain ⟨cell, kC, q1, q2, q3, q5, q4⟩ := gj_cell X hr ht h0 (Or.inr hz)
  rw [ha] at q4
  obtain ⟨-, -, -, -, harr, -⟩ := gj_isArr ha X q2.2.1 q3
  have hrow : ∀ b i, (b ≠ a ∨ i ≠ j.toNatClampNeg) → va_up σ.eI a (va_up (σ.eI a) j.toNatClampNeg (vp_nar .char x)) b i = σ.eI b i := by
    intro b i hb
    by_cases hba : b = a
    · subst hba
      rw [hp_up_same]
      exact hp_up_ne _ _ (hb.resolve_left fun q => q rfl)
    · rw [hp_up_ne _ _ hba]
  refine W.cast X.1 X.2.1 q1 harr q2.1 (by rw [q4.1]; exact hin) (g := F0 m pc la (.int x :: .int j :: .ref a :: st)) rfl rfl hd fun H' e1 e2 e3 => ?_
  refine kk H' _ (hr.store ht h0 ha hz hlt q1 e1 e2 e3 rfl rfl rfl rfl rfl rfl (fun b i hb => ⟨hrow b i hb, rfl, rfl⟩) ?_) (fun q hq => ?_)
  · show Value.int (va_up σ.eI a _ a _) = _
    rw [hp_up_same, hp_up_same]
    rfl
  · rcases List.mem_append.mp hq with h | h
    · exact hfr q h
    · rw [List.mem_singleton.mp h]; exact hz
theorem go_last {a t : Nat} {j : Int32} {x : Int64} (ha : ct_arr t = some .long) (h0 : t ≠ 0) (hd : decode M.cc pc = .ok (.lastore, 1)) (ht : σ.tag a = t) (hz : z.heap.size ≤ a) (hin : vp_in j (σ.len a)) (k : Go z l M d (pc + 1) ls st (σ.rowJ a (va_up (σ.eJ a) j.toNatClampNeg (x))) Q) : Go z l M d pc ls (.long x :: .int j :: .ref a :: st) σ Q := by
  have hlt : j.toNatClampNeg < σ.len a := Nat.not_le.mp fun q => hin (Or.inr q)
  refine go_heap (fun hw => hw.rowJ (hw.lt (by rw [ht]; exact h0)) _) (fun _ => hp_Le.rowJ σ a _) (fun p e R s m args below meth c la H locs cells slots Q' X hl hr hfr h1 h2 kk => ?_) k
  rw [show ∀ g, (σ.rowJ a g).nx - σ.nx = 0 from fun _ => Nat.sub_self _, show ∀ g, (σ.rowJ a g).sl - σ.sl = 0 from fun _ => Nat.sub_self _] at kk
  obtain ⟨cell, kC, q1, q2, q3, q5, q4⟩ := gj_cell X hr ht h0 (Or.inr hz)
  rw [ha] at q4
  obtain ⟨-, -, -, -, harr, -⟩ := gj_isArr ha X q2.2.1 q3
  have hrow : ∀ b i, (b ≠ a ∨ i ≠ j.toNatClampNeg) → va_up σ.eJ a (va_up (σ.eJ a) j.toNatClampNeg (x)) b i = σ.eJ b i := by
    intro b i hb
    by_cases hba : b = a
    · subst hba
      rw [hp_up_same]
      exact hp_up_ne _ _ (hb.resolve_left fun q => q rfl)
    · rw [hp_up_ne _ _ hba]
  refine W.last X.1 X.2.1 q1 harr q2.1 (by rw [q4.1]; exact hin) (g := F0 m pc la (.long x :: .int j :: .ref a :: st)) rfl rfl hd fun H' e1 e2 e3 => ?_
  refine kk H' _ (hr.store ht h0 ha hz hlt q1 e1 e2 e3 rfl rfl rfl rfl rfl rfl (fun b i hb => ⟨rfl, hrow b i hb, rfl⟩) ?_) (fun q hq => ?_)
  · show Value.long (va_up σ.eJ a _ a _) = _
    rw [hp_up_same, hp_up_same]
  · rcases List.mem_append.mp hq with h | h
    · exact hfr q h
    · rw [List.mem_singleton.mp h]; exact hz
/-- a reference to an object of a class that the array takes -/
theorem go_aast {a t b tb : Nat} {C : String} {j : Int32} (ha : ct_arr t = some (.object C)) (h0 : t ≠ 0) (hc : ct_name tb = C) (hb0 : tb ≠ 0) (hd : decode M.cc pc = .ok (.aastore, 1)) (ht : σ.tag a = t) (hb : σ.tag b = tb) (hz : z.heap.size ≤ a) (hin : vp_in j (σ.len a))
    (k : Go z l M d (pc + 1) ls st (σ.rowA a (va_up (σ.eA a) j.toNatClampNeg (some b))) Q) (hbn : ct_arr tb = none := by decide +kernel) : Go z l M d pc ls (.ref b :: .int j :: .ref a :: st) σ Q := by
  have hlt : j.toNatClampNeg < σ.len a := Nat.not_le.mp fun q => hin (Or.inr q)
  refine go_heap (fun hw => hw.rowA (hw.lt (by rw [ht]; exact h0)) _) (fun _ => hp_Le.rowA σ a _) (fun p e R s m args below meth c la H locs cells slots Q' X hl hr hfr h1 h2 kk => ?_) k
  rw [show ∀ g, (σ.rowA a g).nx - σ.nx = 0 from fun _ => Nat.sub_self _, show ∀ g, (σ.rowA a g).sl - σ.sl = 0 from fun _ => Nat.sub_self _] at kk
  obtain ⟨cell, kC, q1, q2, q3, q5, q4⟩ := gj_cell X hr ht h0 (Or.inr hz)
  rw [ha] at q4
  obtain ⟨kA, comp, hk, hkind, harr, hcomp⟩ := gj_isArr ha X q2.2.1 q3
  obtain ⟨cv, kv, r1, r2, r3, r5, -⟩ := gj_cell X hr hb hb0 (Or.inl hbn)
  rw [hc] at r3
  have hcc : cv.cls = comp := Option.some.inj (r3.symm.trans (hcomp C rfl))
  have hasg : s.vm.assignable cv.cls comp = true := by rw [hcc]; exact Vm.assignable_self _ _
  obtain ⟨kcomp, hkc, -⟩ := Vm.findClass_spec (hcomp C rfl)
  have hrow : ∀ b' i, (b' ≠ a ∨ i ≠ j.toNatClampNeg) → va_up σ.eA a (va_up (σ.eA a) j.toNatClampNeg (some b)) b' i = σ.eA b' i := by
    intro b' i hb'
    by_cases hba : b' = a
    · subst hba
      rw [hp_up_same]
      exact hp_up_ne _ _ (hb'.resolve_left fun q => q rfl)
    · rw [hp_up_ne _ _ hba]
  refine W.aast X.1 X.2.1 q1 (fun q h => q2.ns q h) q2.1 hk hkind rfl hkc ⟨fun q => hin (Or.inl q), by rw [q4.1]; exact hlt⟩ r1 (fun q h => r2.ns q h) r5 hasg (g := F0 m pc la (.ref b :: .int j :: .ref a :: st)) rfl rfl hd fun H' e1 e2 e3 => ?_
  refine kk H' _ (hr.store ht h0 ha hz hlt q1 e1 e2 e3 rfl rfl rfl rfl rfl rfl (fun b' i hb' => ⟨rfl, rfl, hrow b' i hb'⟩) ?_) (fun q hq => ?_)
  · show va_rf (va_up σ.eA a _ a _) = _
    rw [hp_up_same, hp_up_same]
    rfl
  · rcases List.mem_append.mp hq with h | h
    · exact hfr q h
    · rw [List.mem_singleton.mp h]; exact hz
/-- a new object -/
theorem go_new {t n index : Nat} (hw1 : Cond.classLink M.y.cls index (ct_name t) ∈ tw_all) (hins : Cond.instantiable (ct_name t) n ∈ tw_all) (hini : Cond.initialized (ct_name t) ∈ tw_all) (ha : ct_arr t = none) (h0 : t ≠ 0) (hd : decode M.cc pc = .ok (.new index, 3))
    (k : Go z l M d (pc + 3) ls (.ref σ.nx :: st) (σ.newO t n) Q) : Go z l M d pc ls st σ Q := by
  refine go_heap (fun hw => hw.newO t n) (fun hw => hp_Le.newO hw t n) (fun p e R s m args below meth c la H locs cells slots Q' X hl hr hfr h1 h2 kk => ?_) k
  have e0 : (σ.newO t n).nx - σ.nx = 1 := Nat.add_sub_cancel_left _ _
  have e00 : (σ.newO t n).sl - σ.sl = n := Nat.add_sub_cancel_left _ _
  rw [e0] at h1
  rw [e00] at h2
  rw [e0, e00] at kk
  refine W.newc X.1 X.2.1 X.own (X.word hw1 args) (X.word hins args) (X.word hini args) (g := F0 m pc la st) rfl hd h1 h2 fun cC kC g1 g2 g3 g4 => ?_
  have hsz : H.size = σ.nx := hr.1
  show W p l e R s m args below meth c _ locs (cells + 1) (slots + n) Q' (F0 m (pc + 3) la (.ref H.size :: st))
  rw [hsz]
  refine kk _ locs (hr.push h0 (by simp [hsz]) (fun q hq => ?_) rfl (fun _ _ => rfl) rfl rfl rfl rfl rfl rfl rfl ?_) hfr
  · rw [Array.getElem?_push, if_neg (by omega)]
  · refine ⟨_, by rw [← hsz]; exact Array.getElem?_push_size, vm9.new, hp_cl.obj ha (by rw [← X.warm.alike.findClass]; exact g1), ?_⟩
    rw [ha]
    intro f hf
    obtain ⟨cf, kf, fi, fd, hi, hs⟩ := slotIs_moved X.warm.alike (gj_slot hf X.zok)
    have h3 := (u_facts g1 g2 (gj_lays hf X args) hi).2.2
    rw [(State.fieldFound?_type hi (ct_parse t f hf)).2, hs] at h3
    have hb := (hr.2.2.2.2 σ.nx (Nat.le_refl _)).2.2.1 f
    have hfv : hp_fv (σ.newO t n) (ft_ty f) f σ.nx = defaultValue (ft_ty f) := by
      have i1 : (σ.newO t n).I f σ.nx = 0 := hb.1
      have i2 : (σ.newO t n).J f σ.nx = 0 := hb.2.1
      have i3 : (σ.newO t n).A f σ.nx = none := hb.2.2
      have hok : gj_okty (ft_ty f) = true := ct_okty t f hf
      cases hty : ft_ty f <;> rw [hty] at hok <;> first | (simp [hp_fv, i1, i2, i3, va_rf, defaultValue]; done) | cases hok
    rw [hfv]
    simp only [Array.getElem?_map, h3, Option.map_some]
theorem go_newa {t : Nat} {ty : FieldType} {atype : ArrayType} {n : Int32} {N : Nat} (hat : newarray.typeOf atype = ty) (hw1 : Cond.arrayClass ty ∈ tw_all) (ha : ct_arr t = some ty) (h0 : t ≠ 0) (hok : gj_okty ty = true) (hd : decode M.cc pc = .ok (.newarray atype, 2)) (hn : ¬ n < 0) (hN : n.toNatClampNeg = N) (hb : N * componentBytes ty ≤ 536870912)
    (k : Go z l M d (pc + 2) ls (.ref σ.nx :: st) (σ.newA t N) Q) : Go z l M d pc ls (.int n :: st) σ Q := by
  subst hN
  subst hat
  refine go_heap (fun hw => hw.newA t _) (fun hw => hp_Le.newA hw t _) (fun p e R s m args below meth c la H locs cells slots Q' X hl hr hfr h1 h2 kk => ?_) k
  have e0 : (σ.newA t n.toNatClampNeg).nx - σ.nx = 1 := Nat.add_sub_cancel_left _ _
  have e00 : (σ.newA t n.toNatClampNeg).sl - σ.sl = n.toNatClampNeg := Nat.add_sub_cancel_left _ _
  rw [e0] at h1
  rw [e00] at h2
  rw [e0, e00] at kk
  refine W.newa X.1 X.2.1 (X.word hw1 args) (g := F0 m pc la (.int n :: st)) rfl hd rfl hn hb h1 h2 fun cA kA comp g1 g2 g3 => ?_
  have hsz : H.size = σ.nx := hr.1
  show W p l e R s m args below meth c _ locs (cells + 1) (slots + n.toNatClampNeg) Q' (F0 m (pc + 2) la (.ref H.size :: st))
  rw [hsz]
  refine kk _ locs (hr.push h0 (by simp [hsz]) (fun q hq => ?_) rfl (fun b hb => hp_up_ne _ _ hb) rfl rfl rfl rfl rfl rfl rfl ?_) hfr
  · rw [Array.getElem?_push, if_neg (by omega)]
  · refine ⟨_, by rw [← hsz]; exact Array.getElem?_push_size, vm9.new, hp_cl.arr ha X.zok rfl (by rw [← X.warm.alike.findClass, (ct_aword t _ ha).2]; exact g1), ?_⟩
    rw [ha]
    have hl9 : (σ.newA t n.toNatClampNeg).len σ.nx = n.toNatClampNeg := hp_up_same _ _ _
    refine ⟨hp_ln.eq (by rw [hl9]; simp), fun j hj => ?_⟩
    rw [hl9] at hj
    have hbk := (hr.2.2.2.2 σ.nx (Nat.le_refl _)).2.2.2 j
    have hev : hp_ev (σ.newA t n.toNatClampNeg) (newarray.typeOf atype) σ.nx j = defaultValue (newarray.typeOf atype) := by
      have i1 : (σ.newA t n.toNatClampNeg).eI σ.nx j = 0 := hbk.1
      have i2 : (σ.newA t n.toNatClampNeg).eJ σ.nx j = 0 := hbk.2.1
      have i3 : (σ.newA t n.toNatClampNeg).eA σ.nx j = none := hbk.2.2
      cases hty : newarray.typeOf atype <;> rw [hty] at hok <;> first | (simp [hp_ev, i1, i2, i3, va_rf, defaultValue]; done) | cases hok
    rw [hev]
    simp [hj]
theorem go_anew {t index : Nat} {C : String} {n : Int32} {N : Nat} (hw1 : Cond.classLink M.y.cls index C ∈ tw_all) (hw2 : Cond.arrayOver (.object C) ∈ lw_tbl) (ha : ct_arr t = some (.object C)) (h0 : t ≠ 0) (hd : decode M.cc pc = .ok (.anewarray index, 3)) (hn : ¬ n < 0) (hN : n.toNatClampNeg = N) (hb : N * 4 ≤ 536870912)
    (k : Go z l M d (pc + 3) ls (.ref σ.nx :: st) (σ.newA t N) Q) : Go z l M d pc ls (.int n :: st) σ Q := by
  subst hN
  refine go_heap (fun hw => hw.newA t _) (fun hw => hp_Le.newA hw t _) (fun p e R s m args below meth c la H locs cells slots Q' X hl hr hfr h1 h2 kk => ?_) k
  have e0 : (σ.newA t n.toNatClampNeg).nx - σ.nx = 1 := Nat.add_sub_cancel_left _ _
  have e00 : (σ.newA t n.toNatClampNeg).sl - σ.sl = n.toNatClampNeg := Nat.add_sub_cancel_left _ _
  rw [e0] at h1
  rw [e00] at h2
  rw [e0, e00] at kk
  have hov : (Cond.arrayOver (.object C)).before args s = true := by
    obtain ⟨za, hz9, -⟩ := X.zok
    exact va_AO.use (va_AO.moved X.warm.alike (va_AO.of (hz9 _ hw2)))
  refine W.anew X.1 X.2.1 X.own (X.word hw1 args) hov (g := F0 m pc la (.int n :: st)) rfl hd rfl hn hb h1 h2 fun cA kA comp g1 g2 g3 g4 => ?_
  have hsz : H.size = σ.nx := hr.1
  show W p l e R s m args below meth c _ locs (cells + 1) (slots + n.toNatClampNeg) Q' (F0 m (pc + 3) la (.ref H.size :: st))
  rw [hsz]
  refine kk _ locs (hr.push h0 (by simp [hsz]) (fun q hq => ?_) rfl (fun b hb => hp_up_ne _ _ hb) rfl rfl rfl rfl rfl rfl rfl ?_) hfr
  · rw [Array.getElem?_push, if_neg (by omega)]
  · refine ⟨_, by rw [← hsz]; exact Array.getElem?_push_size, vm9.new, hp_cl.arr ha X.zok rfl (by rw [← X.warm.alike.findClass, (ct_aword t _ ha).2]; exact g1), ?_⟩
    rw [ha]
    have hl9 : (σ.newA t n.toNatClampNeg).len σ.nx = n.toNatClampNeg := hp_up_same _ _ _
    refine ⟨hp_ln.eq (by rw [hl9]; simp), fun j hj => ?_⟩
    rw [hl9] at hj
    have hbk := (hr.2.2.2.2 σ.nx (Nat.le_refl _)).2.2.2 j
    have i3 : (σ.newA t n.toNatClampNeg).eA σ.nx j = none := hbk.2.2
    simp [hp_ev, i3, va_rf, hj]
end GjArr
