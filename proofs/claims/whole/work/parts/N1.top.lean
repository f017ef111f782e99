/-! ===== from the entry to whole under the premises that are wanting: NOT the claim ===== -/
def R_law : String := "TruthBenchLaw"
def lw_P (b : Addr) (xs : List Int32) (args : Array Value) (s : State) : Prop := args = #[.ref b] ∧ s.IntsAt b xs ∧ xs.length ≤ 3072 ∧ (Jvm.Cond.and given_1 narrow_1).before args s = true ∧ heapFits s = true ∧ Op36 args s
def lw_Q (_ : Array Value) (s : State) (o : Outcome) (t : State) : Prop := o = .returned (some (.int 1)) ∧ Framed s o t [] 601024 7293034
def lw_Z (below : List Frame) (a : Array Value) (s : State) : State → Prop := fun t => ∃ o, t.status = .running ∧ Ended t below o ∧ lw_Q a s o t
set_option maxHeartbeats 4000000 in
theorem lw_walk (l : Launch) (htr : l.stackTraces = false) (b : Addr) (xs : List Int32) : MetFree l x (headSpec (Jvm.Cond.code x code maxLocals ret :: tables_1) room_1) (lw_P b xs) (fun _ _ _ _ _ => True) lw_Q := by
  refine MetFree.of_bodyS (code := code) (maxLocals := maxLocals) (ret := ret) (by decide) ?_ ?_
  · intro args s m h hn
    obtain ⟨meth, c, h1, h2, h3, h4, h5, h6, -, -⟩ := Cond.code_spec hn (atoms_spec (ws := Jvm.Cond.code x code maxLocals ret :: tables_1) h _ List.mem_cons_self)
    exact ⟨meth, c, h1, h2, h3, h4, h5, h6⟩
  · intro p e s m args below meth c s₁ B hml0 hP _
    obtain ⟨rfl, hx, hbd, hgv, hfit, hO⟩ := hP
    obtain ⟨scr, harrAt, hlist, hof, hsmall⟩ := hx
    obtain ⟨hcb, hkn, -, -⟩ := State.arrayAt?_spec harrAt
    have hts0 : ∀ c ∈ (Jvm.Cond.code x code maxLocals ret :: tables_1), c.before #[Value.ref b] s = true := atoms_spec (ws := Jvm.Cond.code x code maxLocals ret :: tables_1) B.pre
    have hts : ∀ w ∈ lw_tbl, w.before #[Value.ref b] s = true := k2_hts_sels lw_privs (fun w hw => hts0 w (List.mem_cons_of_mem _ hw)) lw_privs_ok
    have hh0 : s₁.heap = s.heap := by rw [B.state]; rfl
    have hsz : scr.slots.size = xs.length := by rw [← Array.length_toList, hlist, List.length_map]
    have hval : ∀ j : Nat, j < xs.length → scr.slots[j]? = some (.int (xs.getD j 0)) := fun j hj => by
      rw [← Array.getElem?_toList, hlist]
      simp [hj]
    have hbl : b < s.heap.size := (Array.getElem?_eq_some_iff.mp hcb).1
    have hX : va_X b xs.length (fun j => xs.getD j 0) s s.heap := ⟨scr, hcb, hof, hkn, hsz, hval⟩
    have hzok : gj_Zok s := ⟨_, hts, hgv⟩
    obtain ⟨meth9, c9, h1, h2, h3, h4, h5, h6, h7, h8⟩ := gj_cw_spec (M := mt_A_law) (show (gj_cw mt_A_law).before #[Value.ref b] s = true from hts0 _ List.mem_cons_self) B.named
    cases Option.some.inj (h1.symm.trans B.method)
    cases Option.some.inj (h2.symm.trans (Stand.of_body B).code)
    obtain ⟨op, sg, aO, aS, mO, mS, hSt, hsg, hop⟩ := gj_St_of2 hzok
    obtain ⟨tag, hwf, hrel, ht⟩ := heap0 (noArr_str hzok) (noArr_op hzok hfit)
    have hscr := ok_scr hX hbd
    have G := kl_law (z := s) (l := l) (d := 100) (σ := hp0 s tag) (Q := fun o H => o = .returned (some (.int 1)) ∧ H.nx ≤ s.heap.size + 300000 ∧ H.sl ≤ 0 + 4000000) hSt (ari_not hzok) rfl (fun i hi => ⟨(ht _).2.1 (ok_op hSt hi), (ok_op hSt hi).1⟩) (ws0 hzok hsg hop hO ht) (ms0 hzok ht) ((ht _).2.2.2 hscr.1) hbl hscr.2 hbd (fun H q1 q2 => ⟨rfl, q1, q2⟩)
    obtain ⟨o, σ', hE, hw', hle, ho, q1, q2⟩ := G hwf
    subst ho
    have n0 : (hp0 s tag).nx = s.heap.size := rfl
    have l0 : (hp0 s tag).sl = 0 := rfl
    have n1 := hle.1
    have X : gj_Cx s l mt_A_law 1000 p room_1 s m meth c := ⟨B.exec, h3, h5, h6, h4, findClass_of_methodNamed B.named, (name_of_methodNamed B.named B.method).1, h7, hzok, State.WarmedH.refl s, htr, by decide, by decide⟩
    obtain ⟨t, a1, b1, b2, b3, b4, L, b5, b6⟩ := hE p e room_1 s m #[Value.ref b] below meth c X _ s.heap [] 0 0 (σ'.nx - s.heap.size) σ'.sl (gj_entry [Value.ref b] (Nat.le_of_ble_eq_true rfl)) hrel (fun q hq => nomatch hq) (by omega) (by omega) (by show _ ≤ 601024; omega) (by show _ ≤ 7293034; omega) s₁ hh0 (Stand.of_body B)
    refine ⟨t, _, ?_, b1, b2, rfl, ⟨_, rfl⟩, b4, ?_⟩
    · rw [lg_entry_eq]
      exact a1
    · exact (State.sameButNew.drop_fresh (L := []) (by rw [List.nil_append]; exact b5) b6).mono (by omega) (by omega)
theorem lw_pre_spec {args : Array Value} {s : State} (h : (Jvm.Cond.and given_1 narrow_1).before args s = true) (hr : rest_1_c.before args s = true) (hfit : heapFits s = true) (hO : Op36 args s) : ∃ (b : Addr) (xs : List Int32), lw_P b xs args s := by
  have hs := flat_of_before _ h
  have hq := flat_of_before _ hr
  have hc : (Cond.count 1).before args s = true := hs _ (by decide +kernel)
  have harr : (Cond.arrayOf (.arg 0) .int).before args s = true := hs _ (by decide +kernel)
  have hle : (Cond.le (.length (.arg 0)) (.int 3072)).before args s = true := hs _ (by decide +kernel)
  have hlen : (Cond.isInt (.length (.arg 0))).before args s = true := hq _ (by decide +kernel)
  have hall : (Cond.all (.arg 0) (.isInt (.elem (.arg 0) (.index 0)))).before args s = true := hq _ (by decide +kernel)
  obtain ⟨b, xs, hb, hx⟩ := State.ints_of_pre rfl harr hlen hall
  have hsm : xs.length < 2 ^ 31 := hx.choose_spec.2.2.2
  have hev : (Term.length (.arg 0)).eval args s none [] s = some (.int xs.length.toInt32) := hx.length_eval hb
  have hv := Cond.le_ints hev (show (Term.int 3072).eval args s none [] s = some (.int 3072) from rfl)
  have hd : xs.length.toInt32 ≤ 3072 := by
    simpa [Cond.before, Cond.holds, hv] using hle
  have hN : xs.length ≤ 3072 := (Int32.ofNat_le_ofNat hsm (by decide)).mp (show Int32.ofNat xs.length ≤ Int32.ofNat 3072 from hd)
  exact ⟨b, xs, Cond.one_arg hc (show args[0]? = some (.ref b) from hb), hx, hN, h, hfit, hO⟩
theorem lw_comes (l : Launch) (htr : l.stackTraces = false) : Comes l x (Jvm.Cond.code x code maxLocals ret :: tables_1) room_1 (fun tb e args s => Calls_1 tb e args s ∧ rest_1 tb e args s ∧ Pre_1 tb e args s ∧ Op36 args s)
    (fun _ _ args s o t => lw_Q args s o t) := by
  intro p e ha hc hk s m args below hf hfit hheap happ hpre
  obtain ⟨b, xs, hP⟩ := lw_pre_spec hpre.2.2.1 hpre.2.1 hheap hpre.2.2.2
  obtain ⟨k, o, h1, h2, h3, hQ⟩ := lw_walk l htr b xs p e ha hc hk s m args below hf ((Spec.applies_iff_loose hf).mp happ).1 hP trivial
  exact ⟨k, o, h1, h2, h3, hQ⟩
theorem lw_frame {s t : State} {o : Outcome} {args : Array Value} (h : Framed s o t [] 601024 7293034) :
    Framed s o t (fieldLocs frame_1_writes args s ++ arrayLocs frame_1_arrays args s ++ staticLocs frame_1_statics s) 601024 7293034 := h
theorem lw_limb (L : Cond) (hL : ∀ (args : Array Value) (s t : State), L.after args s (.returned (some (.int 1))) t = true) :
    ArmFor flags0 classFile x code maxLocals ret World_1 tables_1 room_1 Calls_1 rest_1 (fun tb e a s => Pre_1 tb e a s ∧ Op36 a s)
      (fun tb e a s o t => postC L tb e a s o t ∧ Framed s o t (fieldLocs frame_1_writes a s ++ arrayLocs frame_1_arrays a s ++ staticLocs frame_1_statics s) 601024 7293034) := by
  intro l hfl _ _ p e ha hc hk s m args below hf hfit hheap happ hpre
  obtain ⟨k, o, h1, h2, h3, rfl, hF⟩ := lw_comes l (by unfold Launch.stackTraces; rw [hfl]; decide +kernel) p e ha hc hk s m args below hf hfit hheap happ hpre
  exact ⟨k, _, h1, h2, h3, hL args s _, lw_frame hF⟩
/-- NOT the claim: it holds where the 36 wanting premises hold too -/
theorem whole_if : ArmFor flags0 classFile x code maxLocals ret World_1 tables_1 room_1 Calls_1 rest_1 (fun tb e a s => Pre_1 tb e a s ∧ Op36 a s) Post_1_1 ∧ ArmFor flags0 classFile x code maxLocals ret World_1 tables_1 room_1 Calls_1 rest_1 (fun tb e a s => Pre_1 tb e a s ∧ Op36 a s) Post_1_2 := ⟨lw_limb limb_1_1 (fun args s t => by simp [limb_1_1, Cond.after, Cond.holds, Cond.value]), lw_limb limb_1_2 (fun args s t => Cond.after_iff.mpr (by
  first | (rw [show limb_1_2 = Cond.eq .result (.int 1) from rfl, Cond.eq_ints (x := 1) (y := 1) rfl rfl]; simp; done) | (simp [limb_1_2, Cond.value, Term.eval]; done)))⟩
