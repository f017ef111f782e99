/-! ===== writes beside the reference's world ===== -/
section GnPut
variable {z : State} {l : Launch} {M : Mt} {d pc : Nat} {ls st : List Value} {σ : Hp} {am : Nat → Nat} {w : Wd} {Q : Outcome → Hp → Prop}
theorem gn_putI {a f index t n : Nat} {x : Int32} (hx : mx am a) (ht : σ.tag a = t) (hz : z.heap.size ≤ a) (hlk : Cond.fieldLink M.y.cls index (ft_own f) (ft_name f) (ft_desc f) ∈ tw_all) (hins : Cond.instantiable (ct_name t) n ∈ tw_all) (hf : f ∈ ct_flds t) (ha : ct_arr t = none) (h0 : t ≠ 0) (hfin : ft_fin f = false ∨ (ft_own f = M.y.cls ∧ M.y.name = "<init>")) (hd : decode M.cc pc = .ok (.putfield index, 3)) (hty : ∀ (τ : Hp) (a : Nat), hp_fv τ (ft_ty f) f a = .int (τ.I f a)) (hfit : fits (ft_ty f) (.int x) = true) (hn : narrow (ft_ty f) (.int x) = .int x) (k : Go z l M d (pc + 3) ls st (ov (σ.setI f a x) am 7 w) Q) : Go z l M d pc ls (.int x :: .ref a :: st) (ov σ am 7 w) Q :=
  go_putI hlk hins hf ha h0 hfin hd (fun τ => hty τ _) hfit ht hz hn (by rw [nn_setI hx]; exact k)
theorem gn_putJ {a f index t n : Nat} {x : Int64} (hx : mx am a) (ht : σ.tag a = t) (hz : z.heap.size ≤ a) (hlk : Cond.fieldLink M.y.cls index (ft_own f) (ft_name f) (ft_desc f) ∈ tw_all) (hins : Cond.instantiable (ct_name t) n ∈ tw_all) (hf : f ∈ ct_flds t) (ha : ct_arr t = none) (h0 : t ≠ 0) (hfin : ft_fin f = false ∨ (ft_own f = M.y.cls ∧ M.y.name = "<init>")) (hd : decode M.cc pc = .ok (.putfield index, 3)) (hty : ft_ty f = .long) (k : Go z l M d (pc + 3) ls st (ov (σ.setJ f a x) am 7 w) Q) : Go z l M d pc ls (.long x :: .ref a :: st) (ov σ am 7 w) Q :=
  go_putJ hlk hins hf ha h0 hfin hd hty ht hz (by rw [nn_setJ hx]; exact k)
theorem gn_putA {a f index t n : Nat} {x : Option Nat} {u : Value} (hx : mx am a) (ht : σ.tag a = t) (hz : z.heap.size ≤ a) (hlk : Cond.fieldLink M.y.cls index (ft_own f) (ft_name f) (ft_desc f) ∈ tw_all) (hins : Cond.instantiable (ct_name t) n ∈ tw_all) (hf : f ∈ ct_flds t) (ha : ct_arr t = none) (h0 : t ≠ 0) (hfin : ft_fin f = false ∨ (ft_own f = M.y.cls ∧ M.y.name = "<init>")) (hd : decode M.cc pc = .ok (.putfield index, 3)) (hty : ∀ (τ : Hp) (a : Nat), hp_fv τ (ft_ty f) f a = va_rf (τ.A f a)) (hrf : (ft_ty f).isReference = true) (hu : va_rf x = u) (k : Go z l M d (pc + 3) ls st (ov (σ.setA f a x) am 7 w) Q) : Go z l M d pc ls (u :: .ref a :: st) (ov σ am 7 w) Q := by
  subst hu
  exact go_putA hlk hins hf ha h0 hfin hd (fun τ => hty τ _) hrf ht hz (by rw [nn_setA hx]; exact k)
theorem gn_putNI {a f index t n : Nat} {host : String} {x : Int32} (hx : mx am a) (ht : σ.tag a = t) (hz : z.heap.size ≤ a) (hlk : Cond.fieldLinkNest M.y.cls index (ft_own f) (ft_name f) (ft_desc f) host ∈ lw_tbl) (hins : Cond.instantiable (ct_name t) n ∈ tw_all) (hf : f ∈ ct_flds t) (ha : ct_arr t = none) (h0 : t ≠ 0) (hfin : ft_fin f = false) (hd : decode M.cc pc = .ok (.putfield index, 3)) (hty : ∀ (τ : Hp) (a : Nat), hp_fv τ (ft_ty f) f a = .int (τ.I f a)) (hfit : fits (ft_ty f) (.int x) = true) (hn : narrow (ft_ty f) (.int x) = .int x) (k : Go z l M d (pc + 3) ls st (ov (σ.setI f a x) am 7 w) Q) : Go z l M d pc ls (.int x :: .ref a :: st) (ov σ am 7 w) Q :=
  go_putNI hlk hins hf ha h0 hfin hd (fun τ => hty τ _) hfit ht hz hn (by rw [nn_setI hx]; exact k)
theorem gn_putNJ {a f index t n : Nat} {host : String} {x : Int64} (hx : mx am a) (ht : σ.tag a = t) (hz : z.heap.size ≤ a) (hlk : Cond.fieldLinkNest M.y.cls index (ft_own f) (ft_name f) (ft_desc f) host ∈ lw_tbl) (hins : Cond.instantiable (ct_name t) n ∈ tw_all) (hf : f ∈ ct_flds t) (ha : ct_arr t = none) (h0 : t ≠ 0) (hfin : ft_fin f = false) (hd : decode M.cc pc = .ok (.putfield index, 3)) (hty : ft_ty f = .long) (k : Go z l M d (pc + 3) ls st (ov (σ.setJ f a x) am 7 w) Q) : Go z l M d pc ls (.long x :: .ref a :: st) (ov σ am 7 w) Q :=
  go_putNJ hlk hins hf ha h0 hfin hd hty ht hz (by rw [nn_setJ hx]; exact k)
theorem gn_putNA {a f index t n : Nat} {host : String} {x : Option Nat} {u : Value} (hx : mx am a) (ht : σ.tag a = t) (hz : z.heap.size ≤ a) (hlk : Cond.fieldLinkNest M.y.cls index (ft_own f) (ft_name f) (ft_desc f) host ∈ lw_tbl) (hins : Cond.instantiable (ct_name t) n ∈ tw_all) (hf : f ∈ ct_flds t) (ha : ct_arr t = none) (h0 : t ≠ 0) (hfin : ft_fin f = false) (hd : decode M.cc pc = .ok (.putfield index, 3)) (hty : ∀ (τ : Hp) (a : Nat), hp_fv τ (ft_ty f) f a = va_rf (τ.A f a)) (hrf : (ft_ty f).isReference = true) (hu : va_rf x = u) (k : Go z l M d (pc + 3) ls st (ov (σ.setA f a x) am 7 w) Q) : Go z l M d pc ls (u :: .ref a :: st) (ov σ am 7 w) Q := by
  subst hu
  exact go_putNA hlk hins hf ha h0 hfin hd (fun τ => hty τ _) hrf ht hz (by rw [nn_setA hx]; exact k)
theorem gn_aast {a t b tb : Nat} {C : String} {j : Int32} (hx : mx am a) (ht : σ.tag a = t) (hz : z.heap.size ≤ a) (ha : ct_arr t = some (.object C)) (h0 : t ≠ 0) (hc : ct_name tb = C) (hb0 : tb ≠ 0) (hd : decode M.cc pc = .ok (.aastore, 1)) (hb : σ.tag b = tb) (hin : vp_in j (σ.len a))
    (k : Go z l M d (pc + 1) ls st (ov (σ.rowA a (va_up (σ.eA a) j.toNatClampNeg (some b))) am 7 w) Q) (hbn : ct_arr tb = none := by decide +kernel) : Go z l M d pc ls (.ref b :: .int j :: .ref a :: st) (ov σ am 7 w) Q :=
  go_aast ha h0 hc hb0 hd ht hb hz hin (by rw [nn_eA hx, nn_rowA hx]; exact k) hbn
end GnPut
theorem CM.wO {z : State} {σ : Hp} {am : Nat → Nat} {w : Wd} (hc : CM z σ am) (hw : hp_wf (ov σ am 7 w)) (t n : Nat) : CM z (σ.newO t n) am := ⟨hc.1, fun i hi => by
  obtain ⟨h1, h2, h3⟩ := hc.2 i hi
  have h0 : (ov σ am 7 w).tag (am i) ≠ 0 := by
    show σ.tag (am i) ≠ 0
    rw [h1]
    exact (show ∀ i, i < 7 → cm_tag i ≠ 0 by decide) i hi
  exact ⟨(hp_up_ne _ _ (Nat.ne_of_lt (hw.lt h0))).trans h1, h2, h3⟩⟩
theorem CM.wA {z : State} {σ : Hp} {am : Nat → Nat} {w : Wd} (hc : CM z σ am) (hw : hp_wf (ov σ am 7 w)) (t n : Nat) : CM z (σ.newA t n) am := ⟨hc.1, fun i hi => by
  obtain ⟨h1, h2, h3⟩ := hc.2 i hi
  have h0 : (ov σ am 7 w).tag (am i) ≠ 0 := by
    show σ.tag (am i) ≠ 0
    rw [h1]
    exact (show ∀ i, i < 7 → cm_tag i ≠ 0 by decide) i hi
  exact ⟨(hp_up_ne _ _ (Nat.ne_of_lt (hw.lt h0))).trans h1, (hp_up_ne _ _ (Nat.ne_of_lt (hw.lt h0))).trans h2, h3⟩⟩
theorem CM.nxO {z : State} {σ : Hp} {am : Nat → Nat} {w : Wd} (hc : CM z σ am) (hw : hp_wf (ov σ am 7 w)) : mx am σ.nx := fun i hi e => by
  obtain ⟨h1, h2, h3⟩ := hc.2 i hi
  have h0 : (ov σ am 7 w).tag (am i) ≠ 0 := by
    show σ.tag (am i) ≠ 0
    rw [h1]
    exact (show ∀ i, i < 7 → cm_tag i ≠ 0 by decide) i hi
  have := hw.lt h0
  have e2 : (ov σ am 7 w).nx = σ.nx := rfl
  omega
/-- what had a tag keeps it when a cell is made -/
theorem tg_O {σ : Hp} {am : Nat → Nat} {w : Wd} {a t t' n : Nat} (hw : hp_wf (ov σ am 7 w)) (h : σ.tag a = t) (h0 : t ≠ 0) : (σ.newO t' n).tag a = t := by
  have : (ov σ am 7 w).tag a ≠ 0 := by show σ.tag a ≠ 0; rw [h]; exact h0
  exact (hp_up_ne _ _ (Nat.ne_of_lt (hw.lt this))).trans h
theorem tg_A {σ : Hp} {am : Nat → Nat} {w : Wd} {a t t' n : Nat} (hw : hp_wf (ov σ am 7 w)) (h : σ.tag a = t) (h0 : t ≠ 0) : (σ.newA t' n).tag a = t := by
  have : (ov σ am 7 w).tag a ≠ 0 := by show σ.tag a ≠ 0; rw [h]; exact h0
  exact (hp_up_ne _ _ (Nat.ne_of_lt (hw.lt this))).trans h
