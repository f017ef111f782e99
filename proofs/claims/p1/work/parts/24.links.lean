/-! The class's own links. Printed by wip/tools/layc.py. -/
def cl_tab : List (Nat × Nat × Nat) := [(0, 0, 1), (0, 2, 2), (0, 3, 3), (0, 4, 8), (0, 5, 12), (0, 6, 16), (0, 7, 18), (0, 8, 20), (3, 11, 4), (3, 12, 5), (3, 13, 6), (3, 14, 7), (8, 15, 9), (8, 16, 10), (8, 17, 11), (12, 15, 13), (12, 16, 14), (12, 17, 15), (16, 27, 17), (16, 28, 1), (17, 20, 1), (18, 32, 19), (20, 36, 3)]
def CLk (w : Wd) (ad : Nat → Nat) : Prop := ∀ q ∈ cl_tab, w.A q.1 q.2.1 = some (ad q.2.2)
theorem cl_0_0 {w : Wd} {ad : Nat → Nat} (h : CLk w ad) : w.A 0 0 = some (ad 1) := h (0, 0, 1) (List.mem_of_getElem? (i := 0) rfl)
theorem cl_0_2 {w : Wd} {ad : Nat → Nat} (h : CLk w ad) : w.A 0 2 = some (ad 2) := h (0, 2, 2) (List.mem_of_getElem? (i := 1) rfl)
theorem cl_0_3 {w : Wd} {ad : Nat → Nat} (h : CLk w ad) : w.A 0 3 = some (ad 3) := h (0, 3, 3) (List.mem_of_getElem? (i := 2) rfl)
theorem cl_0_4 {w : Wd} {ad : Nat → Nat} (h : CLk w ad) : w.A 0 4 = some (ad 8) := h (0, 4, 8) (List.mem_of_getElem? (i := 3) rfl)
theorem cl_0_5 {w : Wd} {ad : Nat → Nat} (h : CLk w ad) : w.A 0 5 = some (ad 12) := h (0, 5, 12) (List.mem_of_getElem? (i := 4) rfl)
theorem cl_0_6 {w : Wd} {ad : Nat → Nat} (h : CLk w ad) : w.A 0 6 = some (ad 16) := h (0, 6, 16) (List.mem_of_getElem? (i := 5) rfl)
theorem cl_0_7 {w : Wd} {ad : Nat → Nat} (h : CLk w ad) : w.A 0 7 = some (ad 18) := h (0, 7, 18) (List.mem_of_getElem? (i := 6) rfl)
theorem cl_0_8 {w : Wd} {ad : Nat → Nat} (h : CLk w ad) : w.A 0 8 = some (ad 20) := h (0, 8, 20) (List.mem_of_getElem? (i := 7) rfl)
theorem cl_3_11 {w : Wd} {ad : Nat → Nat} (h : CLk w ad) : w.A 3 11 = some (ad 4) := h (3, 11, 4) (List.mem_of_getElem? (i := 8) rfl)
theorem cl_3_12 {w : Wd} {ad : Nat → Nat} (h : CLk w ad) : w.A 3 12 = some (ad 5) := h (3, 12, 5) (List.mem_of_getElem? (i := 9) rfl)
theorem cl_3_13 {w : Wd} {ad : Nat → Nat} (h : CLk w ad) : w.A 3 13 = some (ad 6) := h (3, 13, 6) (List.mem_of_getElem? (i := 10) rfl)
theorem cl_3_14 {w : Wd} {ad : Nat → Nat} (h : CLk w ad) : w.A 3 14 = some (ad 7) := h (3, 14, 7) (List.mem_of_getElem? (i := 11) rfl)
theorem cl_8_15 {w : Wd} {ad : Nat → Nat} (h : CLk w ad) : w.A 8 15 = some (ad 9) := h (8, 15, 9) (List.mem_of_getElem? (i := 12) rfl)
theorem cl_8_16 {w : Wd} {ad : Nat → Nat} (h : CLk w ad) : w.A 8 16 = some (ad 10) := h (8, 16, 10) (List.mem_of_getElem? (i := 13) rfl)
theorem cl_8_17 {w : Wd} {ad : Nat → Nat} (h : CLk w ad) : w.A 8 17 = some (ad 11) := h (8, 17, 11) (List.mem_of_getElem? (i := 14) rfl)
theorem cl_12_15 {w : Wd} {ad : Nat → Nat} (h : CLk w ad) : w.A 12 15 = some (ad 13) := h (12, 15, 13) (List.mem_of_getElem? (i := 15) rfl)
theorem cl_12_16 {w : Wd} {ad : Nat → Nat} (h : CLk w ad) : w.A 12 16 = some (ad 14) := h (12, 16, 14) (List.mem_of_getElem? (i := 16) rfl)
theorem cl_12_17 {w : Wd} {ad : Nat → Nat} (h : CLk w ad) : w.A 12 17 = some (ad 15) := h (12, 17, 15) (List.mem_of_getElem? (i := 17) rfl)
theorem cl_16_27 {w : Wd} {ad : Nat → Nat} (h : CLk w ad) : w.A 16 27 = some (ad 17) := h (16, 27, 17) (List.mem_of_getElem? (i := 18) rfl)
theorem cl_16_28 {w : Wd} {ad : Nat → Nat} (h : CLk w ad) : w.A 16 28 = some (ad 1) := h (16, 28, 1) (List.mem_of_getElem? (i := 19) rfl)
theorem cl_17_20 {w : Wd} {ad : Nat → Nat} (h : CLk w ad) : w.A 17 20 = some (ad 1) := h (17, 20, 1) (List.mem_of_getElem? (i := 20) rfl)
theorem cl_18_32 {w : Wd} {ad : Nat → Nat} (h : CLk w ad) : w.A 18 32 = some (ad 19) := h (18, 32, 19) (List.mem_of_getElem? (i := 21) rfl)
theorem cl_20_36 {w : Wd} {ad : Nat → Nat} (h : CLk w ad) : w.A 20 36 = some (ad 3) := h (20, 36, 3) (List.mem_of_getElem? (i := 22) rfl)
theorem Wd.setI_setI (w : Wd) (i f : Nat) (u v : Int32) : (w.setI i f u).setI i f v = w.setI i f v := by
  have : up22 (up22 w.I i f u) i f v = up22 w.I i f v := by
    funext h b
    rw [up22_eq, up22_eq, up22_eq]
    split <;> rfl
  show ((up22 (up22 w.I i f u) i f v : Nat → Nat → Int32), _) = _
  rw [this]
  rfl
theorem Wd.setJ_setJ (w : Wd) (i f : Nat) (u v : Int64) : (w.setJ i f u).setJ i f v = w.setJ i f v := by
  have : up22 (up22 w.J i f u) i f v = up22 w.J i f v := by
    funext h b
    rw [up22_eq, up22_eq, up22_eq]
    split <;> rfl
  show (w.I, (up22 (up22 w.J i f u) i f v : Nat → Nat → Int64), _) = _
  rw [this]
  rfl
theorem Wd.rowI_rowI (w : Wd) (i : Nat) (f g : Nat → Int32) : (w.rowI i f).rowI i g = w.rowI i g := by
  have : up21 (up21 w.eI i f) i g = up21 w.eI i g := by
    funext h
    rw [up21_eq, up21_eq, up21_eq]
    split <;> rfl
  show (w.I, w.J, w.A, (up21 (up21 w.eI i f) i g : Nat → Nat → Int32), _) = _
  rw [this]
  rfl
theorem Wd.setI_rowI (w : Wd) (i f k : Nat) (u : Int32) (g : Nat → Int32) : (w.setI i f u).rowI k g = (w.rowI k g).setI i f u := rfl
theorem Wd.eI_rowI (w : Wd) (i : Nat) (g : Nat → Int32) : (w.rowI i g).eI i = g := by
  show up21 w.eI i g i = g
  rw [up21_eq, if_pos rfl]
theorem Wd.eI_rowI_ne (w : Wd) {i k : Nat} (g : Nat → Int32) (h : k ≠ i) : (w.rowI i g).eI k = w.eI k := by
  show up21 w.eI i g k = w.eI k
  rw [up21_eq, if_neg h]
theorem Wd.eI_setI (w : Wd) (i f k : Nat) (u : Int32) : (w.setI i f u).eI k = w.eI k := rfl
theorem Wd.I_setI (w : Wd) (i f : Nat) (u : Int32) : (w.setI i f u).I i f = u := by
  show up22 w.I i f u i f = u
  rw [up22_eq, if_pos ⟨rfl, rfl⟩]
theorem Wd.I_rowI (w : Wd) (i : Nat) (g : Nat → Int32) : (w.rowI i g).I = w.I := rfl
/-- a thrown exception's cell leaves the class's cells where they are -/
theorem CW.newO {z : State} {σ : Hp} {ad : Nat → Nat} (hc : CW z σ ad) (hw : hp_wf σ) (t n : Nat) : CW z (σ.newO t n) ad := ⟨hc.1, fun i hi => by
  obtain ⟨h1, h2, h3⟩ := hc.2 i hi
  have h0 : σ.tag (ad i) ≠ 0 := by
    rw [h1]
    exact (show ∀ i, i < 21 → cw_tag i ≠ 0 by decide) i hi
  exact ⟨(hp_up_ne _ _ (Nat.ne_of_lt (hw.lt h0))).trans h1, h2, h3⟩⟩
