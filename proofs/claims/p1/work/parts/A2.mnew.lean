/-! ===== cells made beside the reference's world; its links ===== -/
def mn_tab : List (Nat × Nat × Nat) := [(0, 39, 1), (0, 52, 6), (0, 53, 5), (0, 54, 2), (0, 56, 3), (0, 57, 4)]
def MLk (w : Wd) (am : Nat → Nat) : Prop := ∀ q ∈ mn_tab, w.A q.1 q.2.1 = some (am q.2.2)
theorem mnk_0_39 {w : Wd} {am : Nat → Nat} (h : MLk w am) : w.A 0 39 = some (am 1) := h (0, 39, 1) (List.mem_of_getElem? (i := 0) rfl)
theorem mnk_0_52 {w : Wd} {am : Nat → Nat} (h : MLk w am) : w.A 0 52 = some (am 6) := h (0, 52, 6) (List.mem_of_getElem? (i := 1) rfl)
theorem mnk_0_53 {w : Wd} {am : Nat → Nat} (h : MLk w am) : w.A 0 53 = some (am 5) := h (0, 53, 5) (List.mem_of_getElem? (i := 2) rfl)
theorem mnk_0_54 {w : Wd} {am : Nat → Nat} (h : MLk w am) : w.A 0 54 = some (am 2) := h (0, 54, 2) (List.mem_of_getElem? (i := 3) rfl)
theorem mnk_0_56 {w : Wd} {am : Nat → Nat} (h : MLk w am) : w.A 0 56 = some (am 3) := h (0, 56, 3) (List.mem_of_getElem? (i := 4) rfl)
theorem mnk_0_57 {w : Wd} {am : Nat → Nat} (h : MLk w am) : w.A 0 57 = some (am 4) := h (0, 57, 4) (List.mem_of_getElem? (i := 5) rfl)
theorem nw_b1 {N : Nat} {ty : FieldType} (h : N ≤ 100000) : N * componentBytes ty ≤ 536870912 := by
  have : componentBytes ty ≤ 8 := by cases ty <;> exact Nat.le_of_ble_eq_true rfl
  calc N * componentBytes ty ≤ 100000 * 8 := Nat.mul_le_mul h this
    _ ≤ 536870912 := by decide
theorem nw_b4 {N : Nat} (h : N ≤ 100000) : N * 4 ≤ 536870912 := by omega
section GxNew
variable {z : State} {l : Launch} {M : Mt} {d pc : Nat} {ls st : List Value} {σ : Hp} {am : Nat → Nat} {w : Wd} {Q : Outcome → Hp → Prop}
theorem CM.zs (hc : CM z σ am) (hw : hp_wf (ov σ am 7 w)) : z.heap.size ≤ σ.nx := by
  obtain ⟨h1, h2, h3⟩ := hc.2 0 (by decide)
  have h0 : (ov σ am 7 w).tag (am 0) ≠ 0 := by
    show σ.tag (am 0) ≠ 0
    rw [h1]
    decide
  have := hw.lt h0
  have e2 : (ov σ am 7 w).nx = σ.nx := rfl
  omega
theorem gx_new {t n index : Nat} (hc : CM z σ am) (hw1 : Cond.classLink M.y.cls index (ct_name t) ∈ tw_all) (hins : Cond.instantiable (ct_name t) n ∈ tw_all) (hini : Cond.initialized (ct_name t) ∈ tw_all) (ha : ct_arr t = none) (h0 : t ≠ 0) (hd : decode M.cc pc = .ok (.new index, 3))
    (k : hp_wf (ov σ am 7 w) → CM z (σ.newO t n) am → mx am σ.nx → z.heap.size ≤ σ.nx → Go z l M d (pc + 3) ls (.ref σ.nx :: st) (ov (σ.newO t n) am 7 w) Q) : Go z l M d pc ls st (ov σ am 7 w) Q :=
  go_wf fun hw => go_new (t := t) (n := n) hw1 hins hini ha h0 hd (k hw (hc.wO hw t n) (hc.nxO hw) (hc.zs hw))
theorem gx_newa {t : Nat} {ty : FieldType} {atype : ArrayType} {n : Int32} {N : Nat} (hc : CM z σ am) (hat : newarray.typeOf atype = ty) (hw1 : Cond.arrayClass ty ∈ tw_all) (ha : ct_arr t = some ty) (h0 : t ≠ 0) (hok : gj_okty ty = true) (hd : decode M.cc pc = .ok (.newarray atype, 2)) (hn : ¬ n < 0) (hN : n.toNatClampNeg = N) (hb : N * componentBytes ty ≤ 536870912)
    (k : hp_wf (ov σ am 7 w) → CM z (σ.newA t N) am → mx am σ.nx → z.heap.size ≤ σ.nx → Go z l M d (pc + 2) ls (.ref σ.nx :: st) (ov (σ.newA t N) am 7 w) Q) : Go z l M d pc ls (.int n :: st) (ov σ am 7 w) Q :=
  go_wf fun hw => go_newa (t := t) (N := N) hat hw1 ha h0 hok hd hn hN hb (k hw (hc.wA hw t N) (hc.nxO hw) (hc.zs hw))
theorem gx_anew {t index : Nat} {C : String} {n : Int32} {N : Nat} (hc : CM z σ am) (hw1 : Cond.classLink M.y.cls index C ∈ tw_all) (hw2 : Cond.arrayOver (.object C) ∈ lw_tbl) (ha : ct_arr t = some (.object C)) (h0 : t ≠ 0) (hd : decode M.cc pc = .ok (.anewarray index, 3)) (hn : ¬ n < 0) (hN : n.toNatClampNeg = N) (hb : N * 4 ≤ 536870912)
    (k : hp_wf (ov σ am 7 w) → CM z (σ.newA t N) am → mx am σ.nx → z.heap.size ≤ σ.nx → Go z l M d (pc + 3) ls (.ref σ.nx :: st) (ov (σ.newA t N) am 7 w) Q) : Go z l M d pc ls (.int n :: st) (ov σ am 7 w) Q :=
  go_wf fun hw => go_anew (t := t) (N := N) hw1 hw2 ha h0 hd hn hN hb (k hw (hc.wA hw t N) (hc.nxO hw) (hc.zs hw))
theorem gm_putNI {i f index t n : Nat} {host : String} {x : Int32} (hc : CM z σ am) (hi : i < 7) (htg : cm_tag i = t) (hlk : Cond.fieldLinkNest M.y.cls index (ft_own f) (ft_name f) (ft_desc f) host ∈ lw_tbl) (hins : Cond.instantiable (ct_name t) n ∈ tw_all) (hf : f ∈ ct_flds t) (ha : ct_arr t = none) (h0 : t ≠ 0)
    (hfin : ft_fin f = false) (hd : decode M.cc pc = .ok (.putfield index, 3)) (hty : ∀ (τ : Hp) (a : Nat), hp_fv τ (ft_ty f) f a = .int (τ.I f a)) (hfit : fits (ft_ty f) (.int x) = true) (hn : narrow (ft_ty f) (.int x) = .int x)
    (k : Go z l M d (pc + 3) ls st (ov σ am 7 (w.setI i f x)) Q) : Go z l M d pc ls (.int x :: .ref (am i) :: st) (ov σ am 7 w) Q :=
  go_putNI hlk hins hf ha h0 hfin hd (fun τ => hty τ _) hfit (hc.tag hi htg) (hc.2 i hi).2.2 hn (by rw [ov_setI hc.1 hi]; exact k)
theorem gn_iald {a t : Nat} {j : Int32} (hx : mx am a) (ht : σ.tag a = t) (ha : ct_arr t = some .int) (h0 : t ≠ 0) (hd : decode M.cc pc = .ok (.iaload, 1)) (hin : vp_in j (σ.len a)) (k : Go z l M d (pc + 1) ls (.int (σ.eI a j.toNatClampNeg) :: st) (ov σ am 7 w) Q) : Go z l M d pc ls (.int j :: .ref a :: st) (ov σ am 7 w) Q :=
  go_iald ha h0 hd ht hin (by rw [nn_eI hx]; exact k)
end GxNew
theorem gj_ldcSW {p : Program} {l : Launch} {e : Env} {R : Room} {s : State} {m : MethodId} {args : Array Value} {below : List Frame} {meth : Method} {c : Code} {H : Heap} {locs : List Loc} {cells slots : Nat} {Q : State → Prop} {cc : ByteArray} (hexec : p.tables.exec = Jvm.exec) (hb : c.code = cc) {own text : String} {index : Nat} {a : Nat} (hown : s.vm.findClass own = some m.cls) (hconst : (Cond.stringRef own index text).before args s = true) (hev : (Term.string own index).eval args s none [] s = some (.ref a)) {g : JFrame} (hg : g.method = m) (hdg : decode cc g.pc = .ok (.ldc_w index, 3))
    (k : W p l e R s m args below meth c H locs cells slots Q { g with pc := g.pc + 3, stack := .ref a :: g.stack }) : W p l e R s m args below meth c H locs cells slots Q g := by
  intro T hT X
  obtain ⟨t, a', b⟩ := k T hT X
  exact ⟨t, X.ldcStringW hexec hown hconst hev hg (by rw [hb]; exact hdg) t a', b⟩
theorem go_ldcSW {z : State} {l : Launch} {M : Mt} {d pc : Nat} {ls st : List Value} {σ : Hp} {Q : Outcome → Hp → Prop} {i : Nat} {text : String} (hw : Cond.stringRef M.y.cls i text ∈ lw_tbl) (hd : decode M.cc pc = .ok (.ldc_w i, 3)) (k : Go z l M d (pc + 3) ls (.ref (strZ z M.y.cls i) :: st) σ Q) : Go z l M d pc ls st σ Q :=
  go_lift0 (fun p e R s m args below meth c la H locs cells slots Q' X hl hr kk => by
    obtain ⟨za, hz1, -⟩ := X.zok
    have q := Cond.stringRef_warmed X.warm (hz1 _ hw)
    have L := strZ_ok (hz1 _ hw)
    exact gj_ldcSW X.1 X.2.1 X.own (text := text) (by simp only [Cond.before, Cond.holds, Cond.value] at q ⊢; exact q) (str_ev X.warm L) (g := F0 m pc la st) rfl hd kk) k
