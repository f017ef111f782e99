/-! ===== the reference's own cells: 0 the model, 1 wrong, 2 tape, 3 registers, 4 kinds, 5 fits, 6 comparisons. Printed by wip/tools/genmw.py ===== -/
def cm_tab : List (Nat × Nat) := [(8, 0), (11, 0), (21, 1000), (27, 8), (22, 8), (24, 41), (28, 6)]
def cm_tag (i : Nat) : Nat := (cm_tab.getD i (0, 0)).1
def cm_len (i : Nat) : Nat := (cm_tab.getD i (0, 0)).2
def CM (z : State) (σ : Hp) (am : Nat → Nat) : Prop := ov_inj am 7 ∧ ∀ i, i < 7 → σ.tag (am i) = cm_tag i ∧ σ.len (am i) = cm_len i ∧ z.heap.size ≤ am i
section GmRows
variable {z : State} {l : Launch} {M : Mt} {d pc : Nat} {ls st : List Value} {σ : Hp} {am : Nat → Nat} {w : Wd} {Q : Outcome → Hp → Prop}
theorem CM.tag {t : Nat} (hc : CM z σ am) {i : Nat} (hi : i < 7) (ht : cm_tag i = t) : (ov σ am 7 w).tag (am i) = t := (hc.2 i hi).1.trans ht
theorem gm_getI {i f index t : Nat} {v : Int32} (hc : CM z σ am) (hi : i < 7) (ht : cm_tag i = t) (hw : Cond.fieldLink M.y.cls index (ft_own f) (ft_name f) (ft_desc f) ∈ tw_all) (hf : f ∈ ct_flds t) (ha : ct_arr t = none) (h0 : t ≠ 0) (hty : ∀ (τ : Hp) (a : Nat), hp_fv τ (ft_ty f) f a = .int (τ.I f a)) (hd : decode M.cc pc = .ok (.getfield index, 3)) (hv : w.I i f = v)
    (k : Go z l M d (pc + 3) ls (.int v :: st) (ov σ am 7 w) Q) : Go z l M d pc ls (.ref (am i) :: st) (ov σ am 7 w) Q :=
  go_getf hw hf ha h0 hd (hc.tag hi ht) (by rw [hty, ov_I hc.1 hi, hv]) k
theorem gm_getJ {i f index t : Nat} {v : Int64} (hc : CM z σ am) (hi : i < 7) (ht : cm_tag i = t) (hw : Cond.fieldLink M.y.cls index (ft_own f) (ft_name f) (ft_desc f) ∈ tw_all) (hf : f ∈ ct_flds t) (ha : ct_arr t = none) (h0 : t ≠ 0) (hty : ∀ (τ : Hp) (a : Nat), hp_fv τ (ft_ty f) f a = .long (τ.J f a)) (hd : decode M.cc pc = .ok (.getfield index, 3)) (hv : w.J i f = v)
    (k : Go z l M d (pc + 3) ls (.long v :: st) (ov σ am 7 w) Q) : Go z l M d pc ls (.ref (am i) :: st) (ov σ am 7 w) Q :=
  go_getf hw hf ha h0 hd (hc.tag hi ht) (by rw [hty, ov_J hc.1 hi, hv]) k
theorem gm_getA {i f index t : Nat} {v : Option Nat} {u : Value} (hc : CM z σ am) (hi : i < 7) (ht : cm_tag i = t) (hw : Cond.fieldLink M.y.cls index (ft_own f) (ft_name f) (ft_desc f) ∈ tw_all) (hf : f ∈ ct_flds t) (ha : ct_arr t = none) (h0 : t ≠ 0) (hty : ∀ (τ : Hp) (a : Nat), hp_fv τ (ft_ty f) f a = va_rf (τ.A f a)) (hd : decode M.cc pc = .ok (.getfield index, 3)) (hv : w.A i f = v) (hu : va_rf v = u)
    (k : Go z l M d (pc + 3) ls (u :: st) (ov σ am 7 w) Q) : Go z l M d pc ls (.ref (am i) :: st) (ov σ am 7 w) Q :=
  go_getf hw hf ha h0 hd (hc.tag hi ht) (by rw [hty, ov_A hc.1 hi, hv, hu]) k
theorem gm_getNI {i f index t : Nat} {host : String} {v : Int32} (hc : CM z σ am) (hi : i < 7) (ht : cm_tag i = t) (hw : Cond.fieldLinkNest M.y.cls index (ft_own f) (ft_name f) (ft_desc f) host ∈ lw_tbl) (hf : f ∈ ct_flds t) (ha : ct_arr t = none) (h0 : t ≠ 0) (hty : ∀ (τ : Hp) (a : Nat), hp_fv τ (ft_ty f) f a = .int (τ.I f a)) (hd : decode M.cc pc = .ok (.getfield index, 3)) (hv : w.I i f = v)
    (k : Go z l M d (pc + 3) ls (.int v :: st) (ov σ am 7 w) Q) : Go z l M d pc ls (.ref (am i) :: st) (ov σ am 7 w) Q :=
  go_getfN hw hf ha h0 hd (hc.tag hi ht) (by rw [hty, ov_I hc.1 hi, hv]) k
theorem gm_getNA {i f index t : Nat} {host : String} {v : Option Nat} {u : Value} (hc : CM z σ am) (hi : i < 7) (ht : cm_tag i = t) (hw : Cond.fieldLinkNest M.y.cls index (ft_own f) (ft_name f) (ft_desc f) host ∈ lw_tbl) (hf : f ∈ ct_flds t) (ha : ct_arr t = none) (h0 : t ≠ 0) (hty : ∀ (τ : Hp) (a : Nat), hp_fv τ (ft_ty f) f a = va_rf (τ.A f a)) (hd : decode M.cc pc = .ok (.getfield index, 3)) (hv : w.A i f = v) (hu : va_rf v = u)
    (k : Go z l M d (pc + 3) ls (u :: st) (ov σ am 7 w) Q) : Go z l M d pc ls (.ref (am i) :: st) (ov σ am 7 w) Q :=
  go_getfN hw hf ha h0 hd (hc.tag hi ht) (by rw [hty, ov_A hc.1 hi, hv, hu]) k
theorem gm_putI {i f index t n : Nat} {x : Int32} (hc : CM z σ am) (hi : i < 7) (htg : cm_tag i = t) (hlk : Cond.fieldLink M.y.cls index (ft_own f) (ft_name f) (ft_desc f) ∈ tw_all) (hins : Cond.instantiable (ct_name t) n ∈ tw_all) (hf : f ∈ ct_flds t) (ha : ct_arr t = none) (h0 : t ≠ 0)
    (hfin : ft_fin f = false ∨ (ft_own f = M.y.cls ∧ M.y.name = "<init>")) (hd : decode M.cc pc = .ok (.putfield index, 3)) (hty : ∀ (τ : Hp) (a : Nat), hp_fv τ (ft_ty f) f a = .int (τ.I f a)) (hfit : fits (ft_ty f) (.int x) = true) (hn : narrow (ft_ty f) (.int x) = .int x)
    (k : Go z l M d (pc + 3) ls st (ov σ am 7 (w.setI i f x)) Q) : Go z l M d pc ls (.int x :: .ref (am i) :: st) (ov σ am 7 w) Q :=
  go_putI hlk hins hf ha h0 hfin hd (fun τ => hty τ _) hfit (hc.tag hi htg) (hc.2 i hi).2.2 hn (by rw [ov_setI hc.1 hi]; exact k)
theorem gm_putJ {i f index t n : Nat} {x : Int64} (hc : CM z σ am) (hi : i < 7) (htg : cm_tag i = t) (hlk : Cond.fieldLink M.y.cls index (ft_own f) (ft_name f) (ft_desc f) ∈ tw_all) (hins : Cond.instantiable (ct_name t) n ∈ tw_all) (hf : f ∈ ct_flds t) (ha : ct_arr t = none) (h0 : t ≠ 0)
    (hfin : ft_fin f = false ∨ (ft_own f = M.y.cls ∧ M.y.name = "<init>")) (hd : decode M.cc pc = .ok (.putfield index, 3)) (hty : ft_ty f = .long)
    (k : Go z l M d (pc + 3) ls st (ov σ am 7 (w.setJ i f x)) Q) : Go z l M d pc ls (.long x :: .ref (am i) :: st) (ov σ am 7 w) Q :=
  go_putJ hlk hins hf ha h0 hfin hd hty (hc.tag hi htg) (hc.2 i hi).2.2 (by rw [ov_setJ hc.1 hi]; exact k)
theorem gm_putA {i f index t n : Nat} {x : Option Nat} {u : Value} (hc : CM z σ am) (hi : i < 7) (htg : cm_tag i = t) (hlk : Cond.fieldLink M.y.cls index (ft_own f) (ft_name f) (ft_desc f) ∈ tw_all) (hins : Cond.instantiable (ct_name t) n ∈ tw_all) (hf : f ∈ ct_flds t) (ha : ct_arr t = none) (h0 : t ≠ 0)
    (hfin : ft_fin f = false ∨ (ft_own f = M.y.cls ∧ M.y.name = "<init>")) (hd : decode M.cc pc = .ok (.putfield index, 3)) (hty : ∀ (τ : Hp) (a : Nat), hp_fv τ (ft_ty f) f a = va_rf (τ.A f a)) (hrf : (ft_ty f).isReference = true) (hu : va_rf x = u)
    (k : Go z l M d (pc + 3) ls st (ov σ am 7 (w.setA i f x)) Q) : Go z l M d pc ls (u :: .ref (am i) :: st) (ov σ am 7 w) Q := by
  subst hu
  exact go_putA hlk hins hf ha h0 hfin hd (fun τ => hty τ _) hrf (hc.tag hi htg) (hc.2 i hi).2.2 (by rw [ov_setA hc.1 hi]; exact k)
theorem gm_len {i n : Nat} (hc : CM z σ am) (hi : i < 7) (hn : cm_len i = n) : (ov σ am 7 w).len (am i) = n := (hc.2 i hi).2.1.trans hn
theorem gm_alen {i t n : Nat} {ty : FieldType} (hc : CM z σ am) (hi : i < 7) (htg : cm_tag i = t) (hn : cm_len i = n) (ha : ct_arr t = some ty) (h0 : t ≠ 0) (hd : decode M.cc pc = .ok (.arraylength, 1)) {v : Int32} (hv : nI n = v) (k : Go z l M d (pc + 1) ls (.int v :: st) (ov σ am 7 w) Q) : Go z l M d pc ls (.ref (am i) :: st) (ov σ am 7 w) Q := by
  subst hv
  exact go_alen ha h0 hd (hc.tag hi htg) (gm_len hc hi hn) k
theorem gm_iald {i t n : Nat} {j : Int32} (hc : CM z σ am) (hi : i < 7) (htg : cm_tag i = t) (hn : cm_len i = n) (ha : ct_arr t = some .int) (h0 : t ≠ 0) (hd : decode M.cc pc = .ok (.iaload, 1)) (hin : vp_in j n) (k : Go z l M d (pc + 1) ls (.int (w.eI i j.toNatClampNeg) :: st) (ov σ am 7 w) Q) : Go z l M d pc ls (.int j :: .ref (am i) :: st) (ov σ am 7 w) Q :=
  go_iald ha h0 hd (hc.tag hi htg) (by rw [gm_len hc hi hn]; exact hin) (by rw [ov_eI hc.1 hi]; exact k)
theorem gm_bald {i t n : Nat} {j : Int32} (hc : CM z σ am) (hi : i < 7) (htg : cm_tag i = t) (hn : cm_len i = n) (ha : ct_arr t = some .byte) (h0 : t ≠ 0) (hd : decode M.cc pc = .ok (.baload, 1)) (hin : vp_in j n) (k : Go z l M d (pc + 1) ls (.int (w.eI i j.toNatClampNeg) :: st) (ov σ am 7 w) Q) : Go z l M d pc ls (.int j :: .ref (am i) :: st) (ov σ am 7 w) Q :=
  go_bald ha h0 hd (hc.tag hi htg) (by rw [gm_len hc hi hn]; exact hin) (by rw [ov_eI hc.1 hi]; exact k)
theorem gm_zald {i t n : Nat} {j : Int32} (hc : CM z σ am) (hi : i < 7) (htg : cm_tag i = t) (hn : cm_len i = n) (ha : ct_arr t = some .boolean) (h0 : t ≠ 0) (hd : decode M.cc pc = .ok (.baload, 1)) (hin : vp_in j n) (k : Go z l M d (pc + 1) ls (.int (w.eI i j.toNatClampNeg) :: st) (ov σ am 7 w) Q) : Go z l M d pc ls (.int j :: .ref (am i) :: st) (ov σ am 7 w) Q :=
  go_zald ha h0 hd (hc.tag hi htg) (by rw [gm_len hc hi hn]; exact hin) (by rw [ov_eI hc.1 hi]; exact k)
theorem gm_lald {i t n : Nat} {j : Int32} (hc : CM z σ am) (hi : i < 7) (htg : cm_tag i = t) (hn : cm_len i = n) (ha : ct_arr t = some .long) (h0 : t ≠ 0) (hd : decode M.cc pc = .ok (.laload, 1)) (hin : vp_in j n) (k : Go z l M d (pc + 1) ls (.long (w.eJ i j.toNatClampNeg) :: st) (ov σ am 7 w) Q) : Go z l M d pc ls (.int j :: .ref (am i) :: st) (ov σ am 7 w) Q :=
  go_lald ha h0 hd (hc.tag hi htg) (by rw [gm_len hc hi hn]; exact hin) (by rw [ov_eJ hc.1 hi]; exact k)
theorem gm_aald {i t n : Nat} {C : String} {j : Int32} {u : Value} (hc : CM z σ am) (hi : i < 7) (htg : cm_tag i = t) (hn : cm_len i = n) (ha : ct_arr t = some (.object C)) (h0 : t ≠ 0) (hd : decode M.cc pc = .ok (.aaload, 1)) (hin : vp_in j n) (hu : va_rf (w.eA i j.toNatClampNeg) = u) (k : Go z l M d (pc + 1) ls (u :: st) (ov σ am 7 w) Q) : Go z l M d pc ls (.int j :: .ref (am i) :: st) (ov σ am 7 w) Q :=
  go_aald ha h0 hd (hc.tag hi htg) (by rw [gm_len hc hi hn]; exact hin) (by rw [ov_eA hc.1 hi, hu]; exact k)
theorem gm_iast {i t n : Nat} {j : Int32} {x : Int32} (hc : CM z σ am) (hi : i < 7) (htg : cm_tag i = t) (hn : cm_len i = n) (ha : ct_arr t = some .int) (h0 : t ≠ 0) (hd : decode M.cc pc = .ok (.iastore, 1)) (hin : vp_in j n) (k : Go z l M d (pc + 1) ls st (ov σ am 7 (w.rowI i (va_up (w.eI i) j.toNatClampNeg (x)))) Q) : Go z l M d pc ls (.int x :: .int j :: .ref (am i) :: st) (ov σ am 7 w) Q :=
  go_iast ha h0 hd (hc.tag hi htg) (hc.2 i hi).2.2 (by rw [gm_len hc hi hn]; exact hin) (by rw [ov_eI hc.1 hi, ov_rowI hc.1 hi]; exact k)
theorem gm_bast {i t n : Nat} {j : Int32} {x : Int32} (hc : CM z σ am) (hi : i < 7) (htg : cm_tag i = t) (hn : cm_len i = n) (ha : ct_arr t = some .byte) (h0 : t ≠ 0) (hd : decode M.cc pc = .ok (.bastore, 1)) (hin : vp_in j n) (k : Go z l M d (pc + 1) ls st (ov σ am 7 (w.rowI i (va_up (w.eI i) j.toNatClampNeg (vp_nar .byte x)))) Q) : Go z l M d pc ls (.int x :: .int j :: .ref (am i) :: st) (ov σ am 7 w) Q :=
  go_bast ha h0 hd (hc.tag hi htg) (hc.2 i hi).2.2 (by rw [gm_len hc hi hn]; exact hin) (by rw [ov_eI hc.1 hi, ov_rowI hc.1 hi]; exact k)
theorem gm_zast {i t n : Nat} {j : Int32} {x : Int32} (hc : CM z σ am) (hi : i < 7) (htg : cm_tag i = t) (hn : cm_len i = n) (ha : ct_arr t = some .boolean) (h0 : t ≠ 0) (hd : decode M.cc pc = .ok (.bastore, 1)) (hin : vp_in j n) (k : Go z l M d (pc + 1) ls st (ov σ am 7 (w.rowI i (va_up (w.eI i) j.toNatClampNeg (vp_nar .boolean x)))) Q) : Go z l M d pc ls (.int x :: .int j :: .ref (am i) :: st) (ov σ am 7 w) Q :=
  go_zast ha h0 hd (hc.tag hi htg) (hc.2 i hi).2.2 (by rw [gm_len hc hi hn]; exact hin) (by rw [ov_eI hc.1 hi, ov_rowI hc.1 hi]; exact k)
theorem gm_last {i t n : Nat} {j : Int32} {x : Int64} (hc : CM z σ am) (hi : i < 7) (htg : cm_tag i = t) (hn : cm_len i = n) (ha : ct_arr t = some .long) (h0 : t ≠ 0) (hd : decode M.cc pc = .ok (.lastore, 1)) (hin : vp_in j n) (k : Go z l M d (pc + 1) ls st (ov σ am 7 (w.rowJ i (va_up (w.eJ i) j.toNatClampNeg (x)))) Q) : Go z l M d pc ls (.long x :: .int j :: .ref (am i) :: st) (ov σ am 7 w) Q :=
  go_last ha h0 hd (hc.tag hi htg) (hc.2 i hi).2.2 (by rw [gm_len hc hi hn]; exact hin) (by rw [ov_eJ hc.1 hi, ov_rowJ hc.1 hi]; exact k)
theorem gm_aast {i t n b tb : Nat} {C : String} {j : Int32} (hc : CM z σ am) (hi : i < 7) (htg : cm_tag i = t) (hn : cm_len i = n) (ha : ct_arr t = some (.object C)) (h0 : t ≠ 0) (hcn : ct_name tb = C) (hb0 : tb ≠ 0) (hd : decode M.cc pc = .ok (.aastore, 1)) (hb : σ.tag b = tb) (hin : vp_in j n)
    (k : Go z l M d (pc + 1) ls st (ov σ am 7 (w.rowA i (va_up (w.eA i) j.toNatClampNeg (some b)))) Q) (hbn : ct_arr tb = none := by decide +kernel) : Go z l M d pc ls (.ref b :: .int j :: .ref (am i) :: st) (ov σ am 7 w) Q :=
  go_aast ha h0 hcn hb0 hd (hc.tag hi htg) hb (hc.2 i hi).2.2 (by rw [gm_len hc hi hn]; exact hin) (by rw [ov_eA hc.1 hi, ov_rowA hc.1 hi]; exact k) hbn
end GmRows

/-! cells beside the world -/
def mx (am : Nat → Nat) (a : Nat) : Prop := ∀ i, i < 7 → a ≠ am i
def cm_out (t : Nat) : Bool := !(cm_tab.any fun q => Nat.beq q.1 t)
theorem cm_any : ∀ i, i < 7 → (cm_tab.any fun q => Nat.beq q.1 (cm_tag i)) = true := by decide
theorem CM.out {z : State} {σ : Hp} {am : Nat → Nat} (hc : CM z σ am) {a t : Nat} (ht : σ.tag a = t) (ho : cm_out t = true) : mx am a := fun i hi e => by
  rw [e, (hc.2 i hi).1] at ht
  rw [← ht, cm_out, cm_any i hi] at ho
  exact absurd ho (by decide)
theorem mx_ov {am : Nat → Nat} {a : Nat} (h : mx am a) : ovx am 7 a = none := by
  rcases ovx_cases am 7 a with ⟨i, hi, e⟩ | ⟨-, q⟩
  · exact absurd e (h i hi)
  · exact q
theorem CM.newO {z : State} {σ : Hp} {am : Nat → Nat} (hc : CM z σ am) (hw : hp_wf σ) (t n : Nat) : CM z (σ.newO t n) am := ⟨hc.1, fun i hi => by
  obtain ⟨h1, h2, h3⟩ := hc.2 i hi
  have h0 : σ.tag (am i) ≠ 0 := by
    rw [h1]
    exact (show ∀ i, i < 7 → cm_tag i ≠ 0 by decide) i hi
  exact ⟨(hp_up_ne _ _ (Nat.ne_of_lt (hw.lt h0))).trans h1, h2, h3⟩⟩
theorem CM.newA {z : State} {σ : Hp} {am : Nat → Nat} (hc : CM z σ am) (hw : hp_wf σ) (t n : Nat) : CM z (σ.newA t n) am := ⟨hc.1, fun i hi => by
  obtain ⟨h1, h2, h3⟩ := hc.2 i hi
  have h0 : σ.tag (am i) ≠ 0 := by
    rw [h1]
    exact (show ∀ i, i < 7 → cm_tag i ≠ 0 by decide) i hi
  exact ⟨(hp_up_ne _ _ (Nat.ne_of_lt (hw.lt h0))).trans h1, (hp_up_ne _ _ (Nat.ne_of_lt (hw.lt h0))).trans h2, h3⟩⟩
section GnRows
variable {z : State} {l : Launch} {M : Mt} {d pc : Nat} {ls st : List Value} {σ : Hp} {am : Nat → Nat} {w : Wd} {Q : Outcome → Hp → Prop}
theorem nn_I {a f : Nat} (h : mx am a) : (ov σ am 7 w).I f a = σ.I f a := ovm_none (mx_ov h) _ _
theorem nn_J {a f : Nat} (h : mx am a) : (ov σ am 7 w).J f a = σ.J f a := ovm_none (mx_ov h) _ _
theorem nn_A {a f : Nat} (h : mx am a) : (ov σ am 7 w).A f a = σ.A f a := ovm_none (mx_ov h) _ _
theorem nn_eI {a : Nat} (h : mx am a) : (ov σ am 7 w).eI a = σ.eI a := ovm_none (mx_ov h) _ _
theorem nn_eJ {a : Nat} (h : mx am a) : (ov σ am 7 w).eJ a = σ.eJ a := ovm_none (mx_ov h) _ _
theorem nn_eA {a : Nat} (h : mx am a) : (ov σ am 7 w).eA a = σ.eA a := ovm_none (mx_ov h) _ _
theorem nn_up2 {α : Type} {g b : Nat → Nat → α} {a f : Nat} {v : α} (h : mx am a) : up2 (fun f a => ovm am 7 a (fun k => g k f) (b f a)) f a v = fun f' x => ovm am 7 x (fun k => g k f') (up2 b f a v f' x) := by
  funext f' x
  rcases ovx_cases am 7 x with ⟨j, hj, rfl⟩ | ⟨hne, hd⟩
  · have e : am j ≠ a := fun q => h j hj q.symm
    rw [up2_ne _ _ e]
    rcases hx : ovx am 7 (am j) with _ | k
    · rw [ovm_none hx, ovm_none hx, up2_ne _ _ e]
    · unfold ovm
      rw [hx]
  · rw [ovm_none hd]
    by_cases hx : x = a
    · subst hx
      by_cases hf : f' = f
      · subst hf
        rw [up2_same, up2_same]
      · rw [up2_nf _ _ hf, up2_nf _ _ hf, ovm_none hd]
    · rw [up2_ne _ _ hx, up2_ne _ _ hx, ovm_none hd]
theorem nn_up1 {α : Type} {g b : Nat → α} {a : Nat} {v : α} (h : mx am a) : va_up (fun a => ovm am 7 a g (b a)) a v = fun x => ovm am 7 x g (va_up b a v x) := by
  funext x
  rcases ovx_cases am 7 x with ⟨j, hj, rfl⟩ | ⟨hne, hd⟩
  · have e : am j ≠ a := fun q => h j hj q.symm
    rw [hp_up_ne _ _ e]
    rcases hx : ovx am 7 (am j) with _ | k
    · rw [ovm_none hx, ovm_none hx, hp_up_ne _ _ e]
    · unfold ovm
      rw [hx]
  · rw [ovm_none hd]
    by_cases hx : x = a
    · subst hx
      rw [hp_up_same, hp_up_same]
    · rw [hp_up_ne _ _ hx, hp_up_ne _ _ hx, ovm_none hd]
theorem nn_setI {a f : Nat} {v : Int32} (h : mx am a) : (ov σ am 7 w).setI f a v = ov (σ.setI f a v) am 7 w := by
  show ((_ : Nat → Nat), _, up2 (fun f a => ovm am 7 a (fun k => w.I k f) (σ.I f a)) f a v, _) = _
  rw [nn_up2 h]
  rfl
theorem nn_setJ {a f : Nat} {v : Int64} (h : mx am a) : (ov σ am 7 w).setJ f a v = ov (σ.setJ f a v) am 7 w := by
  show ((_ : Nat → Nat), _, _, up2 (fun f a => ovm am 7 a (fun k => w.J k f) (σ.J f a)) f a v, _) = _
  rw [nn_up2 h]
  rfl
theorem nn_setA {a f : Nat} {v : Option Nat} (h : mx am a) : (ov σ am 7 w).setA f a v = ov (σ.setA f a v) am 7 w := by
  show ((_ : Nat → Nat), _, _, _, up2 (fun f a => ovm am 7 a (fun k => w.A k f) (σ.A f a)) f a v, _) = _
  rw [nn_up2 h]
  rfl
theorem nn_rowI {a : Nat} {g : Nat → Int32} (h : mx am a) : (ov σ am 7 w).rowI a g = ov (σ.rowI a g) am 7 w := by
  show ((_ : Nat → Nat), _, _, _, _, va_up (fun a => ovm am 7 a w.eI (σ.eI a)) a g, _) = _
  rw [nn_up1 h]
  rfl
theorem nn_rowA {a : Nat} {g : Nat → Option Nat} (h : mx am a) : (ov σ am 7 w).rowA a g = ov (σ.rowA a g) am 7 w := by
  show ((_ : Nat → Nat), _, _, _, _, _, _, va_up (fun a => ovm am 7 a w.eA (σ.eA a)) a g, _) = _
  rw [nn_up1 h]
  rfl
theorem gn_getI {a f index t : Nat} {v : Int32} (hx : mx am a) (ht : σ.tag a = t) (hw : Cond.fieldLink M.y.cls index (ft_own f) (ft_name f) (ft_desc f) ∈ tw_all) (hf : f ∈ ct_flds t) (ha : ct_arr t = none) (h0 : t ≠ 0) (hty : ∀ (τ : Hp) (a : Nat), hp_fv τ (ft_ty f) f a = .int (τ.I f a)) (hd : decode M.cc pc = .ok (.getfield index, 3)) (hv : σ.I f a = v)
    (k : Go z l M d (pc + 3) ls (.int v :: st) (ov σ am 7 w) Q) : Go z l M d pc ls (.ref a :: st) (ov σ am 7 w) Q :=
  go_getf hw hf ha h0 hd ht (by rw [hty, nn_I hx, hv]) k
theorem gn_getJ {a f index t : Nat} {v : Int64} (hx : mx am a) (ht : σ.tag a = t) (hw : Cond.fieldLink M.y.cls index (ft_own f) (ft_name f) (ft_desc f) ∈ tw_all) (hf : f ∈ ct_flds t) (ha : ct_arr t = none) (h0 : t ≠ 0) (hty : ∀ (τ : Hp) (a : Nat), hp_fv τ (ft_ty f) f a = .long (τ.J f a)) (hd : decode M.cc pc = .ok (.getfield index, 3)) (hv : σ.J f a = v)
    (k : Go z l M d (pc + 3) ls (.long v :: st) (ov σ am 7 w) Q) : Go z l M d pc ls (.ref a :: st) (ov σ am 7 w) Q :=
  go_getf hw hf ha h0 hd ht (by rw [hty, nn_J hx, hv]) k
theorem gn_getA {a f index t : Nat} {v : Option Nat} {u : Value} (hx : mx am a) (ht : σ.tag a = t) (hw : Cond.fieldLink M.y.cls index (ft_own f) (ft_name f) (ft_desc f) ∈ tw_all) (hf : f ∈ ct_flds t) (ha : ct_arr t = none) (h0 : t ≠ 0) (hty : ∀ (τ : Hp) (a : Nat), hp_fv τ (ft_ty f) f a = va_rf (τ.A f a)) (hd : decode M.cc pc = .ok (.getfield index, 3)) (hv : σ.A f a = v) (hu : va_rf v = u)
    (k : Go z l M d (pc + 3) ls (u :: st) (ov σ am 7 w) Q) : Go z l M d pc ls (.ref a :: st) (ov σ am 7 w) Q :=
  go_getf hw hf ha h0 hd ht (by rw [hty, nn_A hx, hv, hu]) k
theorem gn_getNI {a f index t : Nat} {host : String} {v : Int32} (hx : mx am a) (ht : σ.tag a = t) (hw : Cond.fieldLinkNest M.y.cls index (ft_own f) (ft_name f) (ft_desc f) host ∈ lw_tbl) (hf : f ∈ ct_flds t) (ha : ct_arr t = none) (h0 : t ≠ 0) (hty : ∀ (τ : Hp) (a : Nat), hp_fv τ (ft_ty f) f a = .int (τ.I f a)) (hd : decode M.cc pc = .ok (.getfield index, 3)) (hv : σ.I f a = v)
    (k : Go z l M d (pc + 3) ls (.int v :: st) (ov σ am 7 w) Q) : Go z l M d pc ls (.ref a :: st) (ov σ am 7 w) Q :=
  go_getfN hw hf ha h0 hd ht (by rw [hty, nn_I hx, hv]) k
theorem gn_getNJ {a f index t : Nat} {host : String} {v : Int64} (hx : mx am a) (ht : σ.tag a = t) (hw : Cond.fieldLinkNest M.y.cls index (ft_own f) (ft_name f) (ft_desc f) host ∈ lw_tbl) (hf : f ∈ ct_flds t) (ha : ct_arr t = none) (h0 : t ≠ 0) (hty : ∀ (τ : Hp) (a : Nat), hp_fv τ (ft_ty f) f a = .long (τ.J f a)) (hd : decode M.cc pc = .ok (.getfield index, 3)) (hv : σ.J f a = v)
    (k : Go z l M d (pc + 3) ls (.long v :: st) (ov σ am 7 w) Q) : Go z l M d pc ls (.ref a :: st) (ov σ am 7 w) Q :=
  go_getfN hw hf ha h0 hd ht (by rw [hty, nn_J hx, hv]) k
theorem gn_getNA {a f index t : Nat} {host : String} {v : Option Nat} {u : Value} (hx : mx am a) (ht : σ.tag a = t) (hw : Cond.fieldLinkNest M.y.cls index (ft_own f) (ft_name f) (ft_desc f) host ∈ lw_tbl) (hf : f ∈ ct_flds t) (ha : ct_arr t = none) (h0 : t ≠ 0) (hty : ∀ (τ : Hp) (a : Nat), hp_fv τ (ft_ty f) f a = va_rf (τ.A f a)) (hd : decode M.cc pc = .ok (.getfield index, 3)) (hv : σ.A f a = v) (hu : va_rf v = u)
    (k : Go z l M d (pc + 3) ls (u :: st) (ov σ am 7 w) Q) : Go z l M d pc ls (.ref a :: st) (ov σ am 7 w) Q :=
  go_getfN hw hf ha h0 hd ht (by rw [hty, nn_A hx, hv, hu]) k
theorem gn_bald {a t : Nat} {j : Int32} (hx : mx am a) (ht : σ.tag a = t) (ha : ct_arr t = some .byte) (h0 : t ≠ 0) (hd : decode M.cc pc = .ok (.baload, 1)) (hin : vp_in j (σ.len a)) (k : Go z l M d (pc + 1) ls (.int (σ.eI a j.toNatClampNeg) :: st) (ov σ am 7 w) Q) : Go z l M d pc ls (.int j :: .ref a :: st) (ov σ am 7 w) Q :=
  go_bald ha h0 hd ht hin (by rw [nn_eI hx]; exact k)
theorem gn_aald {a t : Nat} {C : String} {j : Int32} {u : Value} (hx : mx am a) (ht : σ.tag a = t) (ha : ct_arr t = some (.object C)) (h0 : t ≠ 0) (hd : decode M.cc pc = .ok (.aaload, 1)) (hin : vp_in j (σ.len a)) (hu : va_rf (σ.eA a j.toNatClampNeg) = u) (k : Go z l M d (pc + 1) ls (u :: st) (ov σ am 7 w) Q) : Go z l M d pc ls (.int j :: .ref a :: st) (ov σ am 7 w) Q :=
  go_aald ha h0 hd ht hin (by rw [nn_eA hx, hu]; exact k)
theorem gn_bast {a t : Nat} {j x : Int32} (hx : mx am a) (ht : σ.tag a = t) (hz : z.heap.size ≤ a) (ha : ct_arr t = some .byte) (h0 : t ≠ 0) (hd : decode M.cc pc = .ok (.bastore, 1)) (hin : vp_in j (σ.len a)) (k : Go z l M d (pc + 1) ls st (ov (σ.rowI a (va_up (σ.eI a) j.toNatClampNeg (vp_nar .byte x))) am 7 w) Q) : Go z l M d pc ls (.int x :: .int j :: .ref a :: st) (ov σ am 7 w) Q :=
  go_bast ha h0 hd ht hz hin (by rw [nn_eI hx, nn_rowI hx]; exact k)
end GnRows
