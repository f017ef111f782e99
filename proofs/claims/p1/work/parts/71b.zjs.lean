/-! ===== statics of the library ===== -/
theorem js_cs {z : State} (hz : gj_Zok z) : va_Z "java/lang/String" "COMPACT_STRINGS" "Z" (.int 1) (fun q => z.heap.size ≤ q) z z.heap := by
  obtain ⟨za, ht, ha⟩ := hz.atom
  have hA : ∀ a : Nat, a < z.heap.size → ¬ z.heap.size ≤ a := fun a h => by omega
  exact va_Zof (ht _ (List.mem_append_right _ (List.mem_of_getElem? (i := 455) (by decide +kernel)))) (ht _ (List.mem_append_right _ (List.mem_of_getElem? (i := 21) (by decide +kernel)))) (va_eqt (ha _ (List.mem_of_getElem? (i := 59) (by decide +kernel)))) hA
theorem js_fm {z : State} (hz : gj_Zok z) : va_Zq "jdk/internal/util/Preconditions" "SIOOBE_FORMATTER" "Ljava/util/function/BiFunction;" (fun q => z.heap.size ≤ q) z z.heap := by
  obtain ⟨za, ht, ha⟩ := hz.atom
  have hA : ∀ a : Nat, a < z.heap.size → ¬ z.heap.size ≤ a := fun a h => by omega
  exact va_Zqof (ht _ (List.mem_append_right _ (List.mem_of_getElem? (i := 474) (by decide +kernel)))) (ht _ (List.mem_append_right _ (List.mem_of_getElem? (i := 23) (by decide +kernel)))) (ha _ (List.mem_of_getElem? (i := 60) (by decide +kernel))) hA
/-- a static reference, whatever it is -/
theorem go_getsQ {z : State} {l : Launch} {M : Mt} {d pc : Nat} {ls st : List Value} {σ : Hp} {Q : Outcome → Hp → Prop} {C n dd : String} {index : Nat} (hw : Cond.fieldLink M.y.cls index C n dd ∈ tw_all) (hd : decode M.cc pc = .ok (.getstatic index, 3)) (hZ : gj_Zok z → va_Zq C n dd (fun q => z.heap.size ≤ q) z z.heap) (k : Go z l M d (pc + 3) ls (.null :: st) σ Q) (k2 : ∀ t : Nat, Go z l M d (pc + 3) ls (.ref t :: st) σ Q) : Go z l M d pc ls st σ Q := by
  by_cases h0 : va_Z C n dd .null (fun q => z.heap.size ≤ q) z z.heap
  · exact go_gets hw hd (fun _ => h0) k
  · by_cases h1 : ∃ t : Nat, va_Z C n dd (.ref t) (fun q => z.heap.size ≤ q) z z.heap
    · obtain ⟨t, ht⟩ := h1
      exact go_gets hw hd (fun _ => ht) (k2 t)
    · refine go_gets (v := .null) hw hd (fun hz => ?_) k
      rcases hZ hz with h | h
      · exact absurd h h0
      · exact absurd h h1
