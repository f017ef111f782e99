/-! ===== the class's world: its 21 cells by number, laid over any heap ===== -/
abbrev Wd : Type := (Nat → Nat → Int32) × (Nat → Nat → Int64) × (Nat → Nat → Option Nat) × (Nat → Nat → Int32) × (Nat → Nat → Int64) × (Nat → Nat → Option Nat)
def Wd.I (w : Wd) : Nat → Nat → Int32 := w.1
def Wd.J (w : Wd) : Nat → Nat → Int64 := w.2.1
def Wd.A (w : Wd) : Nat → Nat → Option Nat := w.2.2.1
def Wd.eI (w : Wd) : Nat → Nat → Int32 := w.2.2.2.1
def Wd.eJ (w : Wd) : Nat → Nat → Int64 := w.2.2.2.2.1
def Wd.eA (w : Wd) : Nat → Nat → Option Nat := w.2.2.2.2.2
/-- both keys are numerals -/
def up22 {α : Type} (g : Nat → Nat → α) (i f : Nat) (v : α) : Nat → Nat → α := fun h => bif Nat.beq h i then (fun b => bif Nat.beq b f then v else g i b) else g h
def up21 {α : Type} (g : Nat → α) (i : Nat) (v : α) : Nat → α := fun h => bif Nat.beq h i then v else g h
theorem up22_eq {α : Type} (g : Nat → Nat → α) (i f : Nat) (v : α) (h b : Nat) : up22 g i f v h b = if h = i ∧ b = f then v else g h b := by
  unfold up22
  cases h1 : Nat.beq h i with
  | true =>
    have e1 := Nat.eq_of_beq_eq_true h1
    subst e1
    show (bif Nat.beq b f then v else g h b) = _
    cases h2 : Nat.beq b f with
    | true => have e2 := Nat.eq_of_beq_eq_true h2; simp [e2]
    | false => have e2 := Nat.ne_of_beq_eq_false h2; simp [e2]
  | false => have e1 := Nat.ne_of_beq_eq_false h1; simp [e1]
theorem up21_eq {α : Type} (g : Nat → α) (i : Nat) (v : α) (h : Nat) : up21 g i v h = if h = i then v else g h := by
  unfold up21
  cases h1 : Nat.beq h i with
  | true => have e1 := Nat.eq_of_beq_eq_true h1; simp [e1]
  | false => have e1 := Nat.ne_of_beq_eq_false h1; simp [e1]
def Wd.setI (w : Wd) (i f : Nat) (v : Int32) : Wd := (up22 w.I i f v, w.J, w.A, w.eI, w.eJ, w.eA)
def Wd.setJ (w : Wd) (i f : Nat) (v : Int64) : Wd := (w.I, up22 w.J i f v, w.A, w.eI, w.eJ, w.eA)
def Wd.setA (w : Wd) (i f : Nat) (v : Option Nat) : Wd := (w.I, w.J, up22 w.A i f v, w.eI, w.eJ, w.eA)
def Wd.rowI (w : Wd) (i : Nat) (g : Nat → Int32) : Wd := (w.I, w.J, w.A, up21 w.eI i g, w.eJ, w.eA)
def Wd.rowJ (w : Wd) (i : Nat) (g : Nat → Int64) : Wd := (w.I, w.J, w.A, w.eI, up21 w.eJ i g, w.eA)
def Wd.rowA (w : Wd) (i : Nat) (g : Nat → Option Nat) : Wd := (w.I, w.J, w.A, w.eI, w.eJ, up21 w.eA i g)
def ovx (ad : Nat → Nat) (n a : Nat) : Option Nat := (List.range n).find? (fun i => Nat.beq (ad i) a)
def ovm {α : Type} (ad : Nat → Nat) (n a : Nat) (f : Nat → α) (d : α) : α := match ovx ad n a with
  | some i => f i
  | none => d
def ov (σ : Hp) (ad : Nat → Nat) (n : Nat) (w : Wd) : Hp :=
  (σ.tag, σ.len, fun f a => ovm ad n a (fun i => w.I i f) (σ.I f a), fun f a => ovm ad n a (fun i => w.J i f) (σ.J f a), fun f a => ovm ad n a (fun i => w.A i f) (σ.A f a),
   fun a => ovm ad n a w.eI (σ.eI a), fun a => ovm ad n a w.eJ (σ.eJ a), fun a => ovm ad n a w.eA (σ.eA a), σ.nx, σ.sl)
def ov_inj (ad : Nat → Nat) (n : Nat) : Prop := ∀ i j, i < n → j < n → ad i = ad j → i = j
theorem ovx_at {ad : Nat → Nat} {n i : Nat} (h : ov_inj ad n) (hi : i < n) : ovx ad n (ad i) = some i := by
  unfold ovx
  cases hf : (List.range n).find? (fun k => Nat.beq (ad k) (ad i)) with
  | none =>
    have := List.find?_eq_none.mp hf i (List.mem_range.mpr hi)
    exact absurd (Nat.beq_refl _) this
  | some j =>
    have h1 := List.find?_some hf
    have h2 := List.mem_range.mp (List.mem_of_find?_eq_some hf)
    rw [h j i h2 hi (Nat.eq_of_beq_eq_true h1)]
theorem ovx_some {ad : Nat → Nat} {n a i : Nat} (h : ovx ad n a = some i) : i < n ∧ ad i = a :=
  ⟨List.mem_range.mp (List.mem_of_find?_eq_some h), Nat.eq_of_beq_eq_true (List.find?_some (p := fun i => Nat.beq (ad i) a) h)⟩
theorem ovm_at {α : Type} {ad : Nat → Nat} {n i : Nat} (h : ov_inj ad n) (hi : i < n) (f : Nat → α) (d : α) : ovm ad n (ad i) f d = f i := by
  unfold ovm
  rw [ovx_at h hi]
/-- over a cell of the world: the world's; over another: the heap's below -/
theorem ovm_none {α : Type} {ad : Nat → Nat} {n a : Nat} (h : ovx ad n a = none) (f : Nat → α) (d : α) : ovm ad n a f d = d := by
  unfold ovm
  rw [h]
theorem ovx_cases (ad : Nat → Nat) (n a : Nat) : (∃ i, i < n ∧ a = ad i) ∨ ((∀ i, i < n → a ≠ ad i) ∧ ovx ad n a = none) := by
  cases h : ovx ad n a with
  | none =>
    refine Or.inr ⟨fun i hi e => ?_, rfl⟩
    subst e
    have := List.find?_eq_none.mp h i (List.mem_range.mpr hi)
    exact this (Nat.beq_refl _)
  | some i => exact Or.inl ⟨i, (ovx_some h).1, (ovx_some h).2.symm⟩
theorem ov_I {σ : Hp} {ad : Nat → Nat} {n i f : Nat} {w : Wd} (h : ov_inj ad n) (hi : i < n) : (ov σ ad n w).I f (ad i) = w.I i f := ovm_at h hi _ _
theorem ov_J {σ : Hp} {ad : Nat → Nat} {n i f : Nat} {w : Wd} (h : ov_inj ad n) (hi : i < n) : (ov σ ad n w).J f (ad i) = w.J i f := ovm_at h hi _ _
theorem ov_A {σ : Hp} {ad : Nat → Nat} {n i f : Nat} {w : Wd} (h : ov_inj ad n) (hi : i < n) : (ov σ ad n w).A f (ad i) = w.A i f := ovm_at h hi _ _
theorem ov_eI {σ : Hp} {ad : Nat → Nat} {n i : Nat} {w : Wd} (h : ov_inj ad n) (hi : i < n) : (ov σ ad n w).eI (ad i) = w.eI i := ovm_at h hi _ _
theorem ov_eJ {σ : Hp} {ad : Nat → Nat} {n i : Nat} {w : Wd} (h : ov_inj ad n) (hi : i < n) : (ov σ ad n w).eJ (ad i) = w.eJ i := ovm_at h hi _ _
theorem ov_eA {σ : Hp} {ad : Nat → Nat} {n i : Nat} {w : Wd} (h : ov_inj ad n) (hi : i < n) : (ov σ ad n w).eA (ad i) = w.eA i := ovm_at h hi _ _
theorem ov_up2 {α : Type} {ad : Nat → Nat} {n i f : Nat} {g : Nat → Nat → α} {b : Nat → Nat → α} {v : α} (h : ov_inj ad n) (hi : i < n) :
    up2 (fun f a => ovm ad n a (fun k => g k f) (b f a)) f (ad i) v = fun f' a => ovm ad n a (fun k => up22 g i f v k f') (b f' a) := by
  funext f' a
  rcases ovx_cases ad n a with ⟨j, hj, rfl⟩ | ⟨hne, hd⟩
  · rw [ovm_at h hj, up22_eq]
    by_cases hji : j = i
    · subst hji
      by_cases hff : f' = f
      · subst hff
        rw [up2_same]
        simp
      · rw [up2_nf _ _ hff, ovm_at h hj]
        simp [hff]
    · rw [up2_ne _ _ (fun q => hji (h j i hj hi q)), ovm_at h hj]
      simp [hji]
  · rw [up2_ne _ _ (hne i hi), ovm_none hd, ovm_none hd]
theorem ov_up1 {α : Type} {ad : Nat → Nat} {n i : Nat} {g : Nat → α} {b : Nat → α} {v : α} (h : ov_inj ad n) (hi : i < n) :
    va_up (fun a => ovm ad n a g (b a)) (ad i) v = fun a => ovm ad n a (up21 g i v) (b a) := by
  funext a
  rcases ovx_cases ad n a with ⟨j, hj, rfl⟩ | ⟨hne, hd⟩
  · rw [ovm_at h hj, up21_eq]
    by_cases hji : j = i
    · subst hji
      rw [hp_up_same]
      simp
    · rw [hp_up_ne _ _ (fun q => hji (h j i hj hi q)), ovm_at h hj]
      simp [hji]
  · rw [hp_up_ne _ _ (hne i hi), ovm_none hd, ovm_none hd]
section OvSet
variable {σ : Hp} {ad : Nat → Nat} {n i f : Nat} {w : Wd}
theorem ov_setI {v : Int32} (h : ov_inj ad n) (hi : i < n) : (ov σ ad n w).setI f (ad i) v = ov σ ad n (w.setI i f v) := by
  show ((_ : Nat → Nat), _, up2 (fun f a => ovm ad n a (fun k => w.I k f) (σ.I f a)) f (ad i) v, _) = _
  rw [ov_up2 h hi]
  rfl
theorem ov_setJ {v : Int64} (h : ov_inj ad n) (hi : i < n) : (ov σ ad n w).setJ f (ad i) v = ov σ ad n (w.setJ i f v) := by
  show ((_ : Nat → Nat), _, _, up2 (fun f a => ovm ad n a (fun k => w.J k f) (σ.J f a)) f (ad i) v, _) = _
  rw [ov_up2 h hi]
  rfl
theorem ov_setA {v : Option Nat} (h : ov_inj ad n) (hi : i < n) : (ov σ ad n w).setA f (ad i) v = ov σ ad n (w.setA i f v) := by
  show ((_ : Nat → Nat), _, _, _, up2 (fun f a => ovm ad n a (fun k => w.A k f) (σ.A f a)) f (ad i) v, _) = _
  rw [ov_up2 h hi]
  rfl
theorem ov_rowI {g : Nat → Int32} (h : ov_inj ad n) (hi : i < n) : (ov σ ad n w).rowI (ad i) g = ov σ ad n (w.rowI i g) := by
  show ((_ : Nat → Nat), _, _, _, _, va_up (fun a => ovm ad n a w.eI (σ.eI a)) (ad i) g, _) = _
  rw [ov_up1 h hi]
  rfl
theorem ov_rowJ {g : Nat → Int64} (h : ov_inj ad n) (hi : i < n) : (ov σ ad n w).rowJ (ad i) g = ov σ ad n (w.rowJ i g) := by
  show ((_ : Nat → Nat), _, _, _, _, _, va_up (fun a => ovm ad n a w.eJ (σ.eJ a)) (ad i) g, _) = _
  rw [ov_up1 h hi]
  rfl
theorem ov_rowA {g : Nat → Option Nat} (h : ov_inj ad n) (hi : i < n) : (ov σ ad n w).rowA (ad i) g = ov σ ad n (w.rowA i g) := by
  show ((_ : Nat → Nat), _, _, _, _, _, _, va_up (fun a => ovm ad n a w.eA (σ.eA a)) (ad i) g, _) = _
  rw [ov_up1 h hi]
  rfl
end OvSet
/-- the class's cells: their tags, their lengths -/
def cw_tab : List (Nat × Nat) := [(1, 0), (21, 1000), (22, 8), (2, 0), (22, 251), (23, 251), (21, 10040), (24, 41), (3, 0), (25, 1000), (23, 1000), (21, 1000), (3, 0), (25, 1000), (23, 1000), (21, 1000), (5, 0), (4, 0), (6, 0), (22, 1000), (7, 0)]
def cw_tag (i : Nat) : Nat := (cw_tab.getD i (0, 0)).1
def cw_len (i : Nat) : Nat := (cw_tab.getD i (0, 0)).2
def CW (z : State) (σ : Hp) (ad : Nat → Nat) : Prop := ov_inj ad 21 ∧ ∀ i, i < 21 → σ.tag (ad i) = cw_tag i ∧ σ.len (ad i) = cw_len i ∧ z.heap.size ≤ ad i
section GwRows
variable {z : State} {l : Launch} {M : Mt} {d pc : Nat} {ls st : List Value} {σ : Hp} {ad : Nat → Nat} {w : Wd} {Q : Outcome → Hp → Prop}
theorem CW.tag {t : Nat} (hc : CW z σ ad) {i : Nat} (hi : i < 21) (ht : cw_tag i = t) : (ov σ ad 21 w).tag (ad i) = t := (hc.2 i hi).1.trans ht
theorem gw_getI {i f index t : Nat} {v : Int32} (hc : CW z σ ad) (hi : i < 21) (ht : cw_tag i = t) (hw : Cond.fieldLink M.y.cls index (ft_own f) (ft_name f) (ft_desc f) ∈ tw_all) (hf : f ∈ ct_flds t) (ha : ct_arr t = none) (h0 : t ≠ 0) (hty : ∀ (τ : Hp) (a : Nat), hp_fv τ (ft_ty f) f a = .int (τ.I f a)) (hd : decode M.cc pc = .ok (.getfield index, 3)) (hv : w.I i f = v)
    (k : Go z l M d (pc + 3) ls (.int v :: st) (ov σ ad 21 w) Q) : Go z l M d pc ls (.ref (ad i) :: st) (ov σ ad 21 w) Q :=
  go_getf hw hf ha h0 hd (hc.tag hi ht) (by rw [hty, ov_I hc.1 hi, hv]) k
theorem gw_getJ {i f index t : Nat} {v : Int64} (hc : CW z σ ad) (hi : i < 21) (ht : cw_tag i = t) (hw : Cond.fieldLink M.y.cls index (ft_own f) (ft_name f) (ft_desc f) ∈ tw_all) (hf : f ∈ ct_flds t) (ha : ct_arr t = none) (h0 : t ≠ 0) (hty : ∀ (τ : Hp) (a : Nat), hp_fv τ (ft_ty f) f a = .long (τ.J f a)) (hd : decode M.cc pc = .ok (.getfield index, 3)) (hv : w.J i f = v)
    (k : Go z l M d (pc + 3) ls (.long v :: st) (ov σ ad 21 w) Q) : Go z l M d pc ls (.ref (ad i) :: st) (ov σ ad 21 w) Q :=
  go_getf hw hf ha h0 hd (hc.tag hi ht) (by rw [hty, ov_J hc.1 hi, hv]) k
theorem gw_getA {i f index t : Nat} {v : Option Nat} {u : Value} (hc : CW z σ ad) (hi : i < 21) (ht : cw_tag i = t) (hw : Cond.fieldLink M.y.cls index (ft_own f) (ft_name f) (ft_desc f) ∈ tw_all) (hf : f ∈ ct_flds t) (ha : ct_arr t = none) (h0 : t ≠ 0) (hty : ∀ (τ : Hp) (a : Nat), hp_fv τ (ft_ty f) f a = va_rf (τ.A f a)) (hd : decode M.cc pc = .ok (.getfield index, 3)) (hv : w.A i f = v) (hu : va_rf v = u)
    (k : Go z l M d (pc + 3) ls (u :: st) (ov σ ad 21 w) Q) : Go z l M d pc ls (.ref (ad i) :: st) (ov σ ad 21 w) Q :=
  go_getf hw hf ha h0 hd (hc.tag hi ht) (by rw [hty, ov_A hc.1 hi, hv, hu]) k
theorem gw_getNI {i f index t : Nat} {host : String} {v : Int32} (hc : CW z σ ad) (hi : i < 21) (ht : cw_tag i = t) (hw : Cond.fieldLinkNest M.y.cls index (ft_own f) (ft_name f) (ft_desc f) host ∈ lw_tbl) (hf : f ∈ ct_flds t) (ha : ct_arr t = none) (h0 : t ≠ 0) (hty : ∀ (τ : Hp) (a : Nat), hp_fv τ (ft_ty f) f a = .int (τ.I f a)) (hd : decode M.cc pc = .ok (.getfield index, 3)) (hv : w.I i f = v)
    (k : Go z l M d (pc + 3) ls (.int v :: st) (ov σ ad 21 w) Q) : Go z l M d pc ls (.ref (ad i) :: st) (ov σ ad 21 w) Q :=
  go_getfN hw hf ha h0 hd (hc.tag hi ht) (by rw [hty, ov_I hc.1 hi, hv]) k
theorem gw_getNA {i f index t : Nat} {host : String} {v : Option Nat} {u : Value} (hc : CW z σ ad) (hi : i < 21) (ht : cw_tag i = t) (hw : Cond.fieldLinkNest M.y.cls index (ft_own f) (ft_name f) (ft_desc f) host ∈ lw_tbl) (hf : f ∈ ct_flds t) (ha : ct_arr t = none) (h0 : t ≠ 0) (hty : ∀ (τ : Hp) (a : Nat), hp_fv τ (ft_ty f) f a = va_rf (τ.A f a)) (hd : decode M.cc pc = .ok (.getfield index, 3)) (hv : w.A i f = v) (hu : va_rf v = u)
    (k : Go z l M d (pc + 3) ls (u :: st) (ov σ ad 21 w) Q) : Go z l M d pc ls (.ref (ad i) :: st) (ov σ ad 21 w) Q :=
  go_getfN hw hf ha h0 hd (hc.tag hi ht) (by rw [hty, ov_A hc.1 hi, hv, hu]) k
theorem gw_putI {i f index t n : Nat} {x : Int32} (hc : CW z σ ad) (hi : i < 21) (htg : cw_tag i = t) (hlk : Cond.fieldLink M.y.cls index (ft_own f) (ft_name f) (ft_desc f) ∈ tw_all) (hins : Cond.instantiable (ct_name t) n ∈ tw_all) (hf : f ∈ ct_flds t) (ha : ct_arr t = none) (h0 : t ≠ 0)
    (hfin : ft_fin f = false ∨ (ft_own f = M.y.cls ∧ M.y.name = "<init>")) (hd : decode M.cc pc = .ok (.putfield index, 3)) (hty : ∀ (τ : Hp) (a : Nat), hp_fv τ (ft_ty f) f a = .int (τ.I f a)) (hfit : fits (ft_ty f) (.int x) = true) (hn : narrow (ft_ty f) (.int x) = .int x)
    (k : Go z l M d (pc + 3) ls st (ov σ ad 21 (w.setI i f x)) Q) : Go z l M d pc ls (.int x :: .ref (ad i) :: st) (ov σ ad 21 w) Q :=
  go_putI hlk hins hf ha h0 hfin hd (fun τ => hty τ _) hfit (hc.tag hi htg) (hc.2 i hi).2.2 hn (by rw [ov_setI hc.1 hi]; exact k)
theorem gw_putJ {i f index t n : Nat} {x : Int64} (hc : CW z σ ad) (hi : i < 21) (htg : cw_tag i = t) (hlk : Cond.fieldLink M.y.cls index (ft_own f) (ft_name f) (ft_desc f) ∈ tw_all) (hins : Cond.instantiable (ct_name t) n ∈ tw_all) (hf : f ∈ ct_flds t) (ha : ct_arr t = none) (h0 : t ≠ 0)
    (hfin : ft_fin f = false ∨ (ft_own f = M.y.cls ∧ M.y.name = "<init>")) (hd : decode M.cc pc = .ok (.putfield index, 3)) (hty : ft_ty f = .long)
    (k : Go z l M d (pc + 3) ls st (ov σ ad 21 (w.setJ i f x)) Q) : Go z l M d pc ls (.long x :: .ref (ad i) :: st) (ov σ ad 21 w) Q :=
  go_putJ hlk hins hf ha h0 hfin hd hty (hc.tag hi htg) (hc.2 i hi).2.2 (by rw [ov_setJ hc.1 hi]; exact k)
theorem gw_putA {i f index t n : Nat} {x : Option Nat} {u : Value} (hc : CW z σ ad) (hi : i < 21) (htg : cw_tag i = t) (hlk : Cond.fieldLink M.y.cls index (ft_own f) (ft_name f) (ft_desc f) ∈ tw_all) (hins : Cond.instantiable (ct_name t) n ∈ tw_all) (hf : f ∈ ct_flds t) (ha : ct_arr t = none) (h0 : t ≠ 0)
    (hfin : ft_fin f = false ∨ (ft_own f = M.y.cls ∧ M.y.name = "<init>")) (hd : decode M.cc pc = .ok (.putfield index, 3)) (hty : ∀ (τ : Hp) (a : Nat), hp_fv τ (ft_ty f) f a = va_rf (τ.A f a)) (hrf : (ft_ty f).isReference = true) (hu : va_rf x = u)
    (k : Go z l M d (pc + 3) ls st (ov σ ad 21 (w.setA i f x)) Q) : Go z l M d pc ls (u :: .ref (ad i) :: st) (ov σ ad 21 w) Q := by
  subst hu
  exact go_putA hlk hins hf ha h0 hfin hd (fun τ => hty τ _) hrf (hc.tag hi htg) (hc.2 i hi).2.2 (by rw [ov_setA hc.1 hi]; exact k)
theorem gw_len {i n : Nat} (hc : CW z σ ad) (hi : i < 21) (hn : cw_len i = n) : (ov σ ad 21 w).len (ad i) = n := (hc.2 i hi).2.1.trans hn
theorem gw_alen {i t n : Nat} {ty : FieldType} (hc : CW z σ ad) (hi : i < 21) (htg : cw_tag i = t) (hn : cw_len i = n) (ha : ct_arr t = some ty) (h0 : t ≠ 0) (hd : decode M.cc pc = .ok (.arraylength, 1)) {v : Int32} (hv : nI n = v) (k : Go z l M d (pc + 1) ls (.int v :: st) (ov σ ad 21 w) Q) : Go z l M d pc ls (.ref (ad i) :: st) (ov σ ad 21 w) Q := by
  subst hv
  exact go_alen ha h0 hd (hc.tag hi htg) (gw_len hc hi hn) k
theorem gw_iald {i t n : Nat} {j : Int32} (hc : CW z σ ad) (hi : i < 21) (htg : cw_tag i = t) (hn : cw_len i = n) (ha : ct_arr t = some .int) (h0 : t ≠ 0) (hd : decode M.cc pc = .ok (.iaload, 1)) (hin : vp_in j n) (k : Go z l M d (pc + 1) ls (.int (w.eI i j.toNatClampNeg) :: st) (ov σ ad 21 w) Q) : Go z l M d pc ls (.int j :: .ref (ad i) :: st) (ov σ ad 21 w) Q :=
  go_iald ha h0 hd (hc.tag hi htg) (by rw [gw_len hc hi hn]; exact hin) (by rw [ov_eI hc.1 hi]; exact k)
theorem gw_bald {i t n : Nat} {j : Int32} (hc : CW z σ ad) (hi : i < 21) (htg : cw_tag i = t) (hn : cw_len i = n) (ha : ct_arr t = some .byte) (h0 : t ≠ 0) (hd : decode M.cc pc = .ok (.baload, 1)) (hin : vp_in j n) (k : Go z l M d (pc + 1) ls (.int (w.eI i j.toNatClampNeg) :: st) (ov σ ad 21 w) Q) : Go z l M d pc ls (.int j :: .ref (ad i) :: st) (ov σ ad 21 w) Q :=
  go_bald ha h0 hd (hc.tag hi htg) (by rw [gw_len hc hi hn]; exact hin) (by rw [ov_eI hc.1 hi]; exact k)
theorem gw_zald {i t n : Nat} {j : Int32} (hc : CW z σ ad) (hi : i < 21) (htg : cw_tag i = t) (hn : cw_len i = n) (ha : ct_arr t = some .boolean) (h0 : t ≠ 0) (hd : decode M.cc pc = .ok (.baload, 1)) (hin : vp_in j n) (k : Go z l M d (pc + 1) ls (.int (w.eI i j.toNatClampNeg) :: st) (ov σ ad 21 w) Q) : Go z l M d pc ls (.int j :: .ref (ad i) :: st) (ov σ ad 21 w) Q :=
  go_zald ha h0 hd (hc.tag hi htg) (by rw [gw_len hc hi hn]; exact hin) (by rw [ov_eI hc.1 hi]; exact k)
theorem gw_lald {i t n : Nat} {j : Int32} (hc : CW z σ ad) (hi : i < 21) (htg : cw_tag i = t) (hn : cw_len i = n) (ha : ct_arr t = some .long) (h0 : t ≠ 0) (hd : decode M.cc pc = .ok (.laload, 1)) (hin : vp_in j n) (k : Go z l M d (pc + 1) ls (.long (w.eJ i j.toNatClampNeg) :: st) (ov σ ad 21 w) Q) : Go z l M d pc ls (.int j :: .ref (ad i) :: st) (ov σ ad 21 w) Q :=
  go_lald ha h0 hd (hc.tag hi htg) (by rw [gw_len hc hi hn]; exact hin) (by rw [ov_eJ hc.1 hi]; exact k)
theorem gw_aald {i t n : Nat} {C : String} {j : Int32} {u : Value} (hc : CW z σ ad) (hi : i < 21) (htg : cw_tag i = t) (hn : cw_len i = n) (ha : ct_arr t = some (.object C)) (h0 : t ≠ 0) (hd : decode M.cc pc = .ok (.aaload, 1)) (hin : vp_in j n) (hu : va_rf (w.eA i j.toNatClampNeg) = u) (k : Go z l M d (pc + 1) ls (u :: st) (ov σ ad 21 w) Q) : Go z l M d pc ls (.int j :: .ref (ad i) :: st) (ov σ ad 21 w) Q :=
  go_aald ha h0 hd (hc.tag hi htg) (by rw [gw_len hc hi hn]; exact hin) (by rw [ov_eA hc.1 hi, hu]; exact k)
theorem vp_lt {j : Int32} {n : Nat} (h : vp_in j n) : j.toNatClampNeg < n := Nat.not_le.mp fun q => h (Or.inr q)
theorem gj_swi {x k : Int32} {n : Int} (h : x.toInt = n) (hk : k.toInt = n) : x = k := Int32.toInt_inj.mp (h.trans hk.symm)
theorem gj_lsw_none {x : Int} {d : Int} : ∀ {ps : List (Int × Int)}, (∀ p ∈ ps, ¬ x = p.1) → Op.lookupswitch.offset ps d x = d
  | [], _ => rfl
  | (a, o) :: r, h => by
    rw [Op.lookupswitch.offset_cons, if_neg (fun q => h _ List.mem_cons_self q.symm)]
    exact gj_lsw_none fun p hp => h p (List.mem_cons_of_mem _ hp)
theorem gw_iast {i t n : Nat} {j : Int32} {x : Int32} (hc : CW z σ ad) (hi : i < 21) (htg : cw_tag i = t) (hn : cw_len i = n) (ha : ct_arr t = some .int) (h0 : t ≠ 0) (hd : decode M.cc pc = .ok (.iastore, 1)) (hin : vp_in j n) (k : Go z l M d (pc + 1) ls st (ov σ ad 21 (w.rowI i (va_up (w.eI i) j.toNatClampNeg (x)))) Q) : Go z l M d pc ls (.int x :: .int j :: .ref (ad i) :: st) (ov σ ad 21 w) Q :=
  go_iast ha h0 hd (hc.tag hi htg) (hc.2 i hi).2.2 (by rw [gw_len hc hi hn]; exact hin) (by rw [ov_eI hc.1 hi, ov_rowI hc.1 hi]; exact k)
theorem gw_bast {i t n : Nat} {j : Int32} {x : Int32} (hc : CW z σ ad) (hi : i < 21) (htg : cw_tag i = t) (hn : cw_len i = n) (ha : ct_arr t = some .byte) (h0 : t ≠ 0) (hd : decode M.cc pc = .ok (.bastore, 1)) (hin : vp_in j n) (k : Go z l M d (pc + 1) ls st (ov σ ad 21 (w.rowI i (va_up (w.eI i) j.toNatClampNeg (vp_nar .byte x)))) Q) : Go z l M d pc ls (.int x :: .int j :: .ref (ad i) :: st) (ov σ ad 21 w) Q :=
  go_bast ha h0 hd (hc.tag hi htg) (hc.2 i hi).2.2 (by rw [gw_len hc hi hn]; exact hin) (by rw [ov_eI hc.1 hi, ov_rowI hc.1 hi]; exact k)
theorem gw_zast {i t n : Nat} {j : Int32} {x : Int32} (hc : CW z σ ad) (hi : i < 21) (htg : cw_tag i = t) (hn : cw_len i = n) (ha : ct_arr t = some .boolean) (h0 : t ≠ 0) (hd : decode M.cc pc = .ok (.bastore, 1)) (hin : vp_in j n) (k : Go z l M d (pc + 1) ls st (ov σ ad 21 (w.rowI i (va_up (w.eI i) j.toNatClampNeg (vp_nar .boolean x)))) Q) : Go z l M d pc ls (.int x :: .int j :: .ref (ad i) :: st) (ov σ ad 21 w) Q :=
  go_zast ha h0 hd (hc.tag hi htg) (hc.2 i hi).2.2 (by rw [gw_len hc hi hn]; exact hin) (by rw [ov_eI hc.1 hi, ov_rowI hc.1 hi]; exact k)
theorem gw_last {i t n : Nat} {j : Int32} {x : Int64} (hc : CW z σ ad) (hi : i < 21) (htg : cw_tag i = t) (hn : cw_len i = n) (ha : ct_arr t = some .long) (h0 : t ≠ 0) (hd : decode M.cc pc = .ok (.lastore, 1)) (hin : vp_in j n) (k : Go z l M d (pc + 1) ls st (ov σ ad 21 (w.rowJ i (va_up (w.eJ i) j.toNatClampNeg (x)))) Q) : Go z l M d pc ls (.long x :: .int j :: .ref (ad i) :: st) (ov σ ad 21 w) Q :=
  go_last ha h0 hd (hc.tag hi htg) (hc.2 i hi).2.2 (by rw [gw_len hc hi hn]; exact hin) (by rw [ov_eJ hc.1 hi, ov_rowJ hc.1 hi]; exact k)
theorem gw_aast {i t n b tb : Nat} {C : String} {j : Int32} (hc : CW z σ ad) (hi : i < 21) (htg : cw_tag i = t) (hn : cw_len i = n) (ha : ct_arr t = some (.object C)) (h0 : t ≠ 0) (hcn : ct_name tb = C) (hb0 : tb ≠ 0) (hd : decode M.cc pc = .ok (.aastore, 1)) (hb : σ.tag b = tb) (hin : vp_in j n)
    (k : Go z l M d (pc + 1) ls st (ov σ ad 21 (w.rowA i (va_up (w.eA i) j.toNatClampNeg (some b)))) Q) (hbn : ct_arr tb = none := by decide +kernel) : Go z l M d pc ls (.ref b :: .int j :: .ref (ad i) :: st) (ov σ ad 21 w) Q :=
  go_aast ha h0 hcn hb0 hd (hc.tag hi htg) hb (hc.2 i hi).2.2 (by rw [gw_len hc hi hn]; exact hin) (by rw [ov_eA hc.1 hi, ov_rowA hc.1 hi]; exact k) hbn
end GwRows
