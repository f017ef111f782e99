/-! ===== the reference's scanner: its state ===== -/
def ms_tab : List (Nat × List Int32) := [(122, [40, 41, 44, 46, 59, 42, 43, 45, 47, 37, 61, 60, 62]), (144, [32, 111, 114, 32, 97, 110, 100, 32, 110, 111, 116, 32, 105, 115, 32, 110, 117, 108, 108, 32, 105, 110, 32, 108, 105, 107, 101, 32, 98, 101, 116, 119, 101, 101, 110, 32, 99, 97, 115, 101, 32, 119, 104, 101, 110, 32, 116, 104, 101, 110, 32, 101, 108, 115, 101, 32, 101, 110, 100, 32, 116, 114, 117, 101, 32, 102, 97, 108, 115, 101, 32]), (194, [111, 114]), (206, [97, 110, 100]), (208, [110, 111, 116]), (220, [105, 115]), (221, [110, 117, 108, 108]), (231, [105, 110]), (233, [40]), (238, [41]), (240, [108, 105, 107, 101]), (242, [98, 101, 116, 119, 101, 101, 110]), (247, [44]), (252, [43]), (254, [45]), (256, [124, 124]), (261, [42]), (263, [47]), (265, [37]), (276, [116, 114, 117, 101]), (278, [102, 97, 108, 115, 101]), (280, [99, 97, 115, 101]), (288, [119, 104, 101, 110]), (290, [116, 104, 101, 110]), (292, [101, 108, 115, 101]), (294, [101, 110, 100]), (334, [99, 111, 97, 108, 101, 115, 99, 101]), (336, [110, 117, 108, 108, 105, 102]), (338, [97, 98, 115]), (340, [108, 101, 110, 103, 116, 104]), (341, [117, 112, 112, 101, 114]), (343, [108, 111, 119, 101, 114]), (345, [115, 117, 98, 115, 116, 114]), (416, [61]), (418, [60, 62]), (420, [60]), (422, [60, 61]), (424, [62]), (426, [62, 61])]
def MSt (z : State) (σ : Hp) : Prop := ∀ q ∈ ms_tab, StrO z σ (strZ z "TruthBenchModel" q.1) q.2
theorem ms_c122 {z : State} {σ : Hp} (h : MSt z σ) : StrO z σ (strZ z "TruthBenchModel" 122) [40, 41, 44, 46, 59, 42, 43, 45, 47, 37, 61, 60, 62] := h (122, [40, 41, 44, 46, 59, 42, 43, 45, 47, 37, 61, 60, 62]) (List.mem_of_getElem? (i := 0) rfl)
theorem ms_c144 {z : State} {σ : Hp} (h : MSt z σ) : StrO z σ (strZ z "TruthBenchModel" 144) [32, 111, 114, 32, 97, 110, 100, 32, 110, 111, 116, 32, 105, 115, 32, 110, 117, 108, 108, 32, 105, 110, 32, 108, 105, 107, 101, 32, 98, 101, 116, 119, 101, 101, 110, 32, 99, 97, 115, 101, 32, 119, 104, 101, 110, 32, 116, 104, 101, 110, 32, 101, 108, 115, 101, 32, 101, 110, 100, 32, 116, 114, 117, 101, 32, 102, 97, 108, 115, 101, 32] := h (144, [32, 111, 114, 32, 97, 110, 100, 32, 110, 111, 116, 32, 105, 115, 32, 110, 117, 108, 108, 32, 105, 110, 32, 108, 105, 107, 101, 32, 98, 101, 116, 119, 101, 101, 110, 32, 99, 97, 115, 101, 32, 119, 104, 101, 110, 32, 116, 104, 101, 110, 32, 101, 108, 115, 101, 32, 101, 110, 100, 32, 116, 114, 117, 101, 32, 102, 97, 108, 115, 101, 32]) (List.mem_of_getElem? (i := 1) rfl)
theorem ms_c194 {z : State} {σ : Hp} (h : MSt z σ) : StrO z σ (strZ z "TruthBenchModel" 194) [111, 114] := h (194, [111, 114]) (List.mem_of_getElem? (i := 2) rfl)
theorem ms_c206 {z : State} {σ : Hp} (h : MSt z σ) : StrO z σ (strZ z "TruthBenchModel" 206) [97, 110, 100] := h (206, [97, 110, 100]) (List.mem_of_getElem? (i := 3) rfl)
theorem ms_c208 {z : State} {σ : Hp} (h : MSt z σ) : StrO z σ (strZ z "TruthBenchModel" 208) [110, 111, 116] := h (208, [110, 111, 116]) (List.mem_of_getElem? (i := 4) rfl)
theorem ms_c220 {z : State} {σ : Hp} (h : MSt z σ) : StrO z σ (strZ z "TruthBenchModel" 220) [105, 115] := h (220, [105, 115]) (List.mem_of_getElem? (i := 5) rfl)
theorem ms_c221 {z : State} {σ : Hp} (h : MSt z σ) : StrO z σ (strZ z "TruthBenchModel" 221) [110, 117, 108, 108] := h (221, [110, 117, 108, 108]) (List.mem_of_getElem? (i := 6) rfl)
theorem ms_c231 {z : State} {σ : Hp} (h : MSt z σ) : StrO z σ (strZ z "TruthBenchModel" 231) [105, 110] := h (231, [105, 110]) (List.mem_of_getElem? (i := 7) rfl)
theorem ms_c233 {z : State} {σ : Hp} (h : MSt z σ) : StrO z σ (strZ z "TruthBenchModel" 233) [40] := h (233, [40]) (List.mem_of_getElem? (i := 8) rfl)
theorem ms_c238 {z : State} {σ : Hp} (h : MSt z σ) : StrO z σ (strZ z "TruthBenchModel" 238) [41] := h (238, [41]) (List.mem_of_getElem? (i := 9) rfl)
theorem ms_c240 {z : State} {σ : Hp} (h : MSt z σ) : StrO z σ (strZ z "TruthBenchModel" 240) [108, 105, 107, 101] := h (240, [108, 105, 107, 101]) (List.mem_of_getElem? (i := 10) rfl)
theorem ms_c242 {z : State} {σ : Hp} (h : MSt z σ) : StrO z σ (strZ z "TruthBenchModel" 242) [98, 101, 116, 119, 101, 101, 110] := h (242, [98, 101, 116, 119, 101, 101, 110]) (List.mem_of_getElem? (i := 11) rfl)
theorem ms_c247 {z : State} {σ : Hp} (h : MSt z σ) : StrO z σ (strZ z "TruthBenchModel" 247) [44] := h (247, [44]) (List.mem_of_getElem? (i := 12) rfl)
theorem ms_c252 {z : State} {σ : Hp} (h : MSt z σ) : StrO z σ (strZ z "TruthBenchModel" 252) [43] := h (252, [43]) (List.mem_of_getElem? (i := 13) rfl)
theorem ms_c254 {z : State} {σ : Hp} (h : MSt z σ) : StrO z σ (strZ z "TruthBenchModel" 254) [45] := h (254, [45]) (List.mem_of_getElem? (i := 14) rfl)
theorem ms_c256 {z : State} {σ : Hp} (h : MSt z σ) : StrO z σ (strZ z "TruthBenchModel" 256) [124, 124] := h (256, [124, 124]) (List.mem_of_getElem? (i := 15) rfl)
theorem ms_c261 {z : State} {σ : Hp} (h : MSt z σ) : StrO z σ (strZ z "TruthBenchModel" 261) [42] := h (261, [42]) (List.mem_of_getElem? (i := 16) rfl)
theorem ms_c263 {z : State} {σ : Hp} (h : MSt z σ) : StrO z σ (strZ z "TruthBenchModel" 263) [47] := h (263, [47]) (List.mem_of_getElem? (i := 17) rfl)
theorem ms_c265 {z : State} {σ : Hp} (h : MSt z σ) : StrO z σ (strZ z "TruthBenchModel" 265) [37] := h (265, [37]) (List.mem_of_getElem? (i := 18) rfl)
theorem ms_c276 {z : State} {σ : Hp} (h : MSt z σ) : StrO z σ (strZ z "TruthBenchModel" 276) [116, 114, 117, 101] := h (276, [116, 114, 117, 101]) (List.mem_of_getElem? (i := 19) rfl)
theorem ms_c278 {z : State} {σ : Hp} (h : MSt z σ) : StrO z σ (strZ z "TruthBenchModel" 278) [102, 97, 108, 115, 101] := h (278, [102, 97, 108, 115, 101]) (List.mem_of_getElem? (i := 20) rfl)
theorem ms_c280 {z : State} {σ : Hp} (h : MSt z σ) : StrO z σ (strZ z "TruthBenchModel" 280) [99, 97, 115, 101] := h (280, [99, 97, 115, 101]) (List.mem_of_getElem? (i := 21) rfl)
theorem ms_c288 {z : State} {σ : Hp} (h : MSt z σ) : StrO z σ (strZ z "TruthBenchModel" 288) [119, 104, 101, 110] := h (288, [119, 104, 101, 110]) (List.mem_of_getElem? (i := 22) rfl)
theorem ms_c290 {z : State} {σ : Hp} (h : MSt z σ) : StrO z σ (strZ z "TruthBenchModel" 290) [116, 104, 101, 110] := h (290, [116, 104, 101, 110]) (List.mem_of_getElem? (i := 23) rfl)
theorem ms_c292 {z : State} {σ : Hp} (h : MSt z σ) : StrO z σ (strZ z "TruthBenchModel" 292) [101, 108, 115, 101] := h (292, [101, 108, 115, 101]) (List.mem_of_getElem? (i := 24) rfl)
theorem ms_c294 {z : State} {σ : Hp} (h : MSt z σ) : StrO z σ (strZ z "TruthBenchModel" 294) [101, 110, 100] := h (294, [101, 110, 100]) (List.mem_of_getElem? (i := 25) rfl)
theorem ms_c334 {z : State} {σ : Hp} (h : MSt z σ) : StrO z σ (strZ z "TruthBenchModel" 334) [99, 111, 97, 108, 101, 115, 99, 101] := h (334, [99, 111, 97, 108, 101, 115, 99, 101]) (List.mem_of_getElem? (i := 26) rfl)
theorem ms_c336 {z : State} {σ : Hp} (h : MSt z σ) : StrO z σ (strZ z "TruthBenchModel" 336) [110, 117, 108, 108, 105, 102] := h (336, [110, 117, 108, 108, 105, 102]) (List.mem_of_getElem? (i := 27) rfl)
theorem ms_c338 {z : State} {σ : Hp} (h : MSt z σ) : StrO z σ (strZ z "TruthBenchModel" 338) [97, 98, 115] := h (338, [97, 98, 115]) (List.mem_of_getElem? (i := 28) rfl)
theorem ms_c340 {z : State} {σ : Hp} (h : MSt z σ) : StrO z σ (strZ z "TruthBenchModel" 340) [108, 101, 110, 103, 116, 104] := h (340, [108, 101, 110, 103, 116, 104]) (List.mem_of_getElem? (i := 29) rfl)
theorem ms_c341 {z : State} {σ : Hp} (h : MSt z σ) : StrO z σ (strZ z "TruthBenchModel" 341) [117, 112, 112, 101, 114] := h (341, [117, 112, 112, 101, 114]) (List.mem_of_getElem? (i := 30) rfl)
theorem ms_c343 {z : State} {σ : Hp} (h : MSt z σ) : StrO z σ (strZ z "TruthBenchModel" 343) [108, 111, 119, 101, 114] := h (343, [108, 111, 119, 101, 114]) (List.mem_of_getElem? (i := 31) rfl)
theorem ms_c345 {z : State} {σ : Hp} (h : MSt z σ) : StrO z σ (strZ z "TruthBenchModel" 345) [115, 117, 98, 115, 116, 114] := h (345, [115, 117, 98, 115, 116, 114]) (List.mem_of_getElem? (i := 32) rfl)
theorem ms_c416 {z : State} {σ : Hp} (h : MSt z σ) : StrO z σ (strZ z "TruthBenchModel" 416) [61] := h (416, [61]) (List.mem_of_getElem? (i := 33) rfl)
theorem ms_c418 {z : State} {σ : Hp} (h : MSt z σ) : StrO z σ (strZ z "TruthBenchModel" 418) [60, 62] := h (418, [60, 62]) (List.mem_of_getElem? (i := 34) rfl)
theorem ms_c420 {z : State} {σ : Hp} (h : MSt z σ) : StrO z σ (strZ z "TruthBenchModel" 420) [60] := h (420, [60]) (List.mem_of_getElem? (i := 35) rfl)
theorem ms_c422 {z : State} {σ : Hp} (h : MSt z σ) : StrO z σ (strZ z "TruthBenchModel" 422) [60, 61] := h (422, [60, 61]) (List.mem_of_getElem? (i := 36) rfl)
theorem ms_c424 {z : State} {σ : Hp} (h : MSt z σ) : StrO z σ (strZ z "TruthBenchModel" 424) [62] := h (424, [62]) (List.mem_of_getElem? (i := 37) rfl)
theorem ms_c426 {z : State} {σ : Hp} (h : MSt z σ) : StrO z σ (strZ z "TruthBenchModel" 426) [62, 61] := h (426, [62, 61]) (List.mem_of_getElem? (i := 38) rfl)
theorem StrO.mv {z : State} {σ σ' : Hp} {a : Nat} {cs : List Int32} (h : StrO z σ a cs) (f : ∀ b, b < z.heap.size → SameC σ σ' b) : StrO z σ' a cs := by
  obtain ⟨h1, h2, h3, b, h4, h5, h6, h7, h8⟩ := h
  have fa := f a h3
  have fb := f b h4
  exact ⟨fa.1.trans h1, (fa.2.2.1 82).1.trans h2, h3, b, h4, (fa.2.2.1 81).2.2.trans h5, fb.1.trans h6, fb.2.1.trans h7, fun i hi => by rw [fb.2.2.2.1]; exact h8 i hi⟩
theorem MSt.mv {z : State} {σ σ' : Hp} (h : MSt z σ) (f : ∀ b, b < z.heap.size → SameC σ σ' b) : MSt z σ' := fun q hq => (h q hq).mv f
theorem CM.old {z : State} {σ : Hp} {am : Nat → Nat} (hc : CM z σ am) {a : Nat} (h : a < z.heap.size) : mx am a := fun i hi e => by
  have := (hc.2 i hi).2.2
  omega
theorem str_om {z : State} {σ : Hp} {am : Nat → Nat} {w : Wd} {a : Nat} {cs : List Int32} (hc : CM z σ am) (h : StrO z σ a cs) : Str (ov σ am 7 w) a cs := by
  obtain ⟨h1, h2, h3, b, h4, h5, h6, h7, h8⟩ := h
  have ma := hc.old h3
  have mb := hc.old h4
  exact ⟨h1, (nn_I ma).trans h2, b, (nn_A ma).trans h5, h6, h7, fun i hi => by rw [nn_eI mb]; exact h8 i hi⟩
/-- a string beside the world -/
def StrM (σ : Hp) (am : Nat → Nat) (a : Nat) (cs : List Int32) : Prop := Str σ a cs ∧ ∀ b, σ.A 81 a = some b → mx am b
theorem StrM.ov {z : State} {σ : Hp} {am : Nat → Nat} {w : Wd} {a : Nat} {cs : List Int32} (hc : CM z σ am) (h : StrM σ am a cs) : Str (ov σ am 7 w) a cs := by
  obtain ⟨⟨h1, h2, b, h5, h6, h7, h8⟩, hb⟩ := h
  have ma := hc.out h1 rfl
  exact ⟨h1, (nn_I ma).trans h2, b, (nn_A ma).trans h5, h6, h7, fun i hi => by rw [nn_eI (hb b h5)]; exact h8 i hi⟩
theorem StrM.mv {σ σ' : Hp} {am : Nat → Nat} {a : Nat} {cs : List Int32} (h : StrM σ am a cs) (fa : SameC σ σ' a) (f : ∀ b, σ.A 81 a = some b → SameC σ σ' b) : StrM σ' am a cs := by
  obtain ⟨⟨h1, h2, b, h5, h6, h7, h8⟩, hb⟩ := h
  have fb := f b h5
  exact ⟨⟨fa.1.trans h1, (fa.2.2.1 82).1.trans h2, b, (fa.2.2.1 81).2.2.trans h5, fb.1.trans h6, fb.2.1.trans h7, fun i hi => by rw [fb.2.2.2.1]; exact h8 i hi⟩, fun q hq => hb q ((fa.2.2.1 81).2.2.symm.trans hq)⟩
theorem StrO.strM {z : State} {σ : Hp} {am : Nat → Nat} {a : Nat} {cs : List Int32} (hc : CM z σ am) (h : StrO z σ a cs) : StrM σ am a cs := by
  obtain ⟨h1, h2, h3, b, h4, h5, h6, h7, h8⟩ := h
  exact ⟨⟨h1, h2, b, h5, h6, h7, h8⟩, fun q hq => by rw [h5] at hq; cases hq; exact hc.old h4⟩
/-- only the scanner's fields have changed -/
def SS (w w' : Wd) : Prop := (∀ i f, (i ≠ 0 ∨ f < 44 ∨ 49 < f) → w'.I i f = w.I i f ∧ w'.J i f = w.J i f ∧ w'.A i f = w.A i f) ∧ w'.eI = w.eI ∧ w'.eJ = w.eJ ∧ w'.eA = w.eA
/-- only the parser's fields have changed -/
def WS (w w' : Wd) : Prop := (∀ i f, (i ≠ 0 ∨ f < 44 ∨ 51 < f) → w'.I i f = w.I i f ∧ w'.J i f = w.J i f ∧ w'.A i f = w.A i f) ∧ w'.eI = w.eI ∧ w'.eJ = w.eJ ∧ w'.eA = w.eA
theorem SS.rfl' (w : Wd) : SS w w := ⟨fun _ _ _ => ⟨rfl, rfl, rfl⟩, rfl, rfl, rfl⟩
theorem WS.rfl' (w : Wd) : WS w w := ⟨fun _ _ _ => ⟨rfl, rfl, rfl⟩, rfl, rfl, rfl⟩
theorem SS.trans {w w1 w2 : Wd} (h : SS w w1) (g : SS w1 w2) : SS w w2 := ⟨fun i f q => ⟨((g.1 i f q).1).trans (h.1 i f q).1, ((g.1 i f q).2.1).trans (h.1 i f q).2.1, ((g.1 i f q).2.2).trans (h.1 i f q).2.2⟩, g.2.1.trans h.2.1, g.2.2.1.trans h.2.2.1, g.2.2.2.trans h.2.2.2⟩
theorem WS.trans {w w1 w2 : Wd} (h : WS w w1) (g : WS w1 w2) : WS w w2 := ⟨fun i f q => ⟨((g.1 i f q).1).trans (h.1 i f q).1, ((g.1 i f q).2.1).trans (h.1 i f q).2.1, ((g.1 i f q).2.2).trans (h.1 i f q).2.2⟩, g.2.1.trans h.2.1, g.2.2.1.trans h.2.2.1, g.2.2.2.trans h.2.2.2⟩
theorem SS.ws {w w' : Wd} (h : SS w w') : WS w w' := ⟨fun i f q => h.1 i f (q.imp id (fun q => q.imp id (fun q => by omega))), h.2⟩
theorem SS.setI (w : Wd) {f : Nat} (v : Int32) (h1 : 44 ≤ f) (h2 : f ≤ 49) : SS w (w.setI 0 f v) := ⟨fun i g q => ⟨by show up22 w.I 0 f v i g = _; rw [up22_eq, if_neg (by omega)], rfl, rfl⟩, rfl, rfl, rfl⟩
theorem SS.setJ (w : Wd) {f : Nat} (v : Int64) (h1 : 44 ≤ f) (h2 : f ≤ 49) : SS w (w.setJ 0 f v) := ⟨fun i g q => ⟨rfl, by show up22 w.J 0 f v i g = _; rw [up22_eq, if_neg (by omega)], rfl⟩, rfl, rfl, rfl⟩
theorem SS.setA (w : Wd) {f : Nat} (v : Option Nat) (h1 : 44 ≤ f) (h2 : f ≤ 49) : SS w (w.setA 0 f v) := ⟨fun i g q => ⟨rfl, rfl, by show up22 w.A 0 f v i g = _; rw [up22_eq, if_neg (by omega)]⟩, rfl, rfl, rfl⟩
theorem WS.setI (w : Wd) {f : Nat} (v : Int32) (h1 : 44 ≤ f) (h2 : f ≤ 51) : WS w (w.setI 0 f v) := ⟨fun i g q => ⟨by show up22 w.I 0 f v i g = _; rw [up22_eq, if_neg (by omega)], rfl, rfl⟩, rfl, rfl, rfl⟩
def cmi (k : Nat) : Nat := 416 + 2 * k
/-- what stands fast while a text T of L bytes is read -/
def PM (z : State) (σ : Hp) (am : Nat → Nat) (w : Wd) (T : Nat → Int32) (L sa : Nat) : Prop :=
  CM z σ am ∧ MLk w am ∧ w.A 0 42 = some sa ∧ (σ.tag sa = 21 ∧ mx am sa ∧ sa < σ.nx ∧ L ≤ σ.len sa ∧ σ.len sa ≤ 100000 ∧ ∀ i, i < L → σ.eI sa i = T i) ∧ w.I 0 43 = nI L ∧ L ≤ 1000 ∧ (∀ i, isB (T i)) ∧ MSt z σ ∧ z.heap.size ≤ σ.nx ∧ ∀ k, k < 6 → w.eA 6 k = some (strZ z "TruthBenchModel" (cmi k))
theorem PM.mv {z : State} {σ σ' : Hp} {am : Nat → Nat} {w w' : Wd} {T : Nat → Int32} {L sa : Nat} {ex : Nat → Prop} (h : PM z σ am w T L sa) (hc : CM z σ' am) (f : Fm am ex σ σ') (hx : ¬ ex sa) (hz : ∀ a, ex a → z.heap.size ≤ a) (hw : WS w w') : PM z σ' am w' T L sa := by
  obtain ⟨h1, h2, h3, ⟨t1, t2, t3, t4, t5, t6⟩, h5, h6, h7, h8, h9, h10⟩ := h
  have fs := f.2.2 sa t3 t2 hx
  refine ⟨hc, fun q hq => ?_, ?_, ⟨fs.1.trans t1, t2, Nat.lt_of_lt_of_le t3 f.1, by rw [fs.2.1]; exact t4, by rw [fs.2.1]; exact t5, fun i hi => by rw [fs.2.2.2.1]; exact t6 i hi⟩, ?_, h6, h7, h8.mv (fun b hb => f.2.2 b (by omega) (h1.old hb) (fun q => by have := hz b q; omega)), Nat.le_trans h9 f.1, fun k hk => by rw [hw.2.2.2]; exact h10 k hk⟩
  · refine (hw.1 q.1 q.2.1 ?_).2.2.trans (h2 q hq)
    have := (show ∀ q ∈ mn_tab, q.1 ≠ 0 ∨ q.2.1 < 44 ∨ 51 < q.2.1 by decide) q hq
    exact this
  · exact (hw.1 0 42 (Or.inr (Or.inl (by decide)))).2.2.trans h3
  · exact (hw.1 0 43 (Or.inr (Or.inl (by decide)))).1.trans h5
theorem PM.w {z : State} {σ : Hp} {am : Nat → Nat} {w w' : Wd} {T : Nat → Int32} {L sa : Nat} (h : PM z σ am w T L sa) (hw : SS w w') : PM z σ am w' T L sa := h.mv h.1 (Fm.rfl' am (fun _ => False) σ) (fun q => q) (fun _ q => q.elim) hw.ws
section MAt
variable {z : State} {l : Launch} {d : Nat} {σ : Hp} {am : Nat → Nat} {w : Wd} {Q : Outcome → Hp → Prop} {T : Nat → Int32} {L sa : Nat}
theorem mo_at {i : Nat} (h : PM z σ am w T L sa) (hi : i ≤ 5000) (k : Q (.returned (some (.int (atv T L i)))) (ov σ am 7 w)) : Go z l mt_M_at (d + 9) 0 [.ref (am 0), .int (nI i)] [] (ov σ am 7 w) Q := by
  obtain ⟨h1, h2, h3, ⟨t1, t2, t3, t4, t5, t6⟩, h5, h6, h7, h8, h9, h10⟩ := h
  have ec : (nI i).toNatClampNeg = i := nI_clamp (by omega)
  have iff9 : w.I 0 43 ≤ nI i ↔ L ≤ i := by
    rw [h5]
    constructor
    · intro q
      rcases Nat.lt_or_ge i L with e | e
      · exact absurd q (nI_ge e (by omega))
      · exact e
    · exact fun q => nI_le q (by omega)
  refine cm_M_at h1 t2 t1 (fun q => ?_) (fun _ => h3) (fun q => vp_in_nI (by have : ¬ L ≤ i := fun e => q (iff9.mpr e); omega) (by omega)) (fun q => ?_)
  · have := iff9.mp q
    unfold atv at k
    rw [if_neg (by omega)] at k
    exact k
  · have e : i < L := by
      have : ¬ L ≤ i := fun e => q (iff9.mpr e)
      omega
    unfold atv at k
    rw [if_pos e] at k
    rw [ec, t6 i e]
    exact k
theorem mo_let {c : Int32} (hc : CM z σ am) (k : Q (.returned (some (.int (b2i (decide (sc_let c)))))) (ov σ am 7 w)) : Go z l mt_M_letter (d + 9) 0 [.int c] [] (ov σ am 7 w) Q := by
  have kn : ¬ sc_let c → Q (.returned (some (.int 0))) (ov σ am 7 w) := fun h => by rw [decide_eq_false h] at k; exact k
  have ky : sc_let c → Q (.returned (some (.int 1))) (ov σ am 7 w) := fun h => by rw [decide_eq_true h] at k; exact k
  have nn : ∀ (a b : Int32), ¬ a < b ↔ b ≤ a := fun a b => Int32.not_lt
  refine cm_M_letter hc (fun a b c9 => kn ?_) (fun a b c9 => ky (Or.inr (Or.inr c9))) (fun a b c9 => ky (Or.inr (Or.inl ⟨Int32.not_lt.mp b, c9⟩))) (fun a b c9 d9 => kn ?_) (fun a b c9 d9 => ky (Or.inr (Or.inr d9))) (fun a b => ky (Or.inl ⟨Int32.not_lt.mp a, b⟩)) (fun a b c9 d9 => kn ?_) (fun a b c9 d9 => ky (Or.inr (Or.inr d9))) (fun a b c9 d9 => ky (Or.inr (Or.inl ⟨Int32.not_lt.mp c9, d9⟩))) (fun a b c9 d9 e9 => kn ?_) (fun a b c9 d9 e9 => ky (Or.inr (Or.inr e9)))
  · exact fun q => q.elim (fun q => absurd a (Int32.not_lt.mpr q.1)) (fun q => q.elim (fun q => absurd b (Int32.not_lt.mpr q.1)) c9)
  · exact fun q => q.elim (fun q => absurd a (Int32.not_lt.mpr q.1)) (fun q => q.elim (fun q => c9 q.2) d9)
  · exact fun q => q.elim (fun q => b q.2) (fun q => q.elim (fun q => absurd c9 (Int32.not_lt.mpr q.1)) d9)
  · exact fun q => q.elim (fun q => b q.2) (fun q => q.elim (fun q => d9 q.2) e9)
theorem mo_dig {c : Int32} (hc : CM z σ am) (k : Q (.returned (some (.int (b2i (decide (sc_dig c)))))) (ov σ am 7 w)) : Go z l mt_M_digit (d + 9) 0 [.int c] [] (ov σ am 7 w) Q := by
  have kn : ¬ sc_dig c → Q (.returned (some (.int 0))) (ov σ am 7 w) := fun h => by rw [decide_eq_false h] at k; exact k
  have ky : sc_dig c → Q (.returned (some (.int 1))) (ov σ am 7 w) := fun h => by rw [decide_eq_true h] at k; exact k
  refine cm_M_digit hc (fun a => kn (fun q => absurd a (Int32.not_lt.mpr q.1))) (fun a b => kn (fun q => absurd b (Int32.not_lt.mpr q.2))) (fun a b => ky ⟨Int32.not_lt.mp a, Int32.not_lt.mp b⟩)
end MAt
