/-! What the statics hold at the start of the law. Printed by wip/tools/static.py. -/
def gj_at : List Cond := flatC (Jvm.Cond.and given_1 narrow_1)
theorem gj_Zok.atom {z : State} (h : gj_Zok z) : ∃ za : Array Value, (∀ w ∈ lw_tbl, w.before za z = true) ∧ ∀ w ∈ gj_at, w.before za z = true := by
  obtain ⟨za, h1, h2⟩ := h
  exact ⟨za, h1, flat_of_before _ h2⟩
theorem gj_eqr {args : Array Value} {s : State} {t u : Term} {a : Nat} (h : (Cond.eq t u).before args s = true) (hu : u.eval args s none [] s = some (.ref a)) : t.eval args s none [] s = some (.ref a) := by
  cases hv : t.eval args s none [] s with
  | none => simp [Cond.before, Cond.holds, Cond.value, hv] at h
  | some w =>
    simp only [Cond.before, Cond.holds, Cond.value, hv, hu] at h
    cases w <;> simp_all
theorem gj_fam {n : Nat} (L : List Cond) (pos : List Nat) (c : Nat → Cond) (hlen : pos.length = n) (h : ∀ p ∈ (List.range n).zip pos, L[p.2]? = some (c p.1)) : ∀ i, i < n → c i ∈ L := by
  intro i hi
  have hp : i < pos.length := by rw [hlen]; exact hi
  exact List.mem_of_getElem? (h (i, pos[i]) (List.mem_of_getElem? (i := i) (by rw [List.getElem?_zip_eq_some]; exact ⟨by simp [hi], List.getElem?_eq_getElem hp⟩)))
def opN : List String := ["NONE", "PUSH_INT", "PUSH_TEXT", "PUSH_BOOL", "PUSH_NULL", "PUSH_REGISTER", "OR_LEFT", "AND_LEFT", "IN_LEFT", "IN_PART", "BETWEEN_LOW", "WHEN", "THEN", "COALESCE_PART", "OR", "AND", "NOT", "IS_NULL", "IN", "BETWEEN", "EQUAL", "OTHER", "LESS", "AT_MOST", "GREATER", "AT_LEAST", "LIKE", "JOIN", "PLUS", "MINUS", "TIMES", "OVER", "REST", "NEGATE", "CASE", "ABS", "LENGTH", "UPPER", "LOWER", "SUBSTR", "COALESCE", "NULLIF", "UNKNOWN"]
def sgN : List String := ["OR", "AND", "NOT", "IS", "NULL", "IN", "LIKE", "BETWEEN", "CASE", "WHEN", "THEN", "ELSE", "END", "TRUE", "FALSE", "NAME", "INTEGER", "CHARACTERS", "EQUAL", "OTHER", "LESS", "AT_MOST", "GREATER", "AT_LEAST", "PLUS", "MINUS", "JOIN", "TIMES", "OVER", "REST", "OPEN", "CLOSE", "COMMA", "LAST", "NO_SIGN"]
def op_ordinal : List Int32 := [0, 1, 2, 3, 4, 5, 6, 7, 8, 9, 10, 11, 12, 13, 14, 15, 16, 17, 18, 19, 20, 21, 22, 23, 24, 25, 26, 27, 28, 29, 30, 31, 32, 33, 34, 35, 36, 37, 38, 39, 40, 41, 42]
def op_closing : List Int32 := [0, 0, 0, 0, 0, 0, 0, 0, 0, 0, 0, 0, 0, 0, 1, 1, 1, 1, 1, 1, 1, 1, 1, 1, 1, 1, 1, 1, 1, 1, 1, 1, 1, 1, 1, 1, 1, 1, 1, 1, 1, 1, 1]
def op_strict : List Int32 := [0, 0, 0, 0, 0, 0, 0, 0, 0, 0, 0, 0, 0, 0, 0, 0, 1, 0, 0, 0, 1, 1, 1, 1, 1, 1, 1, 1, 1, 1, 1, 1, 1, 1, 0, 1, 1, 1, 1, 1, 0, 0, 0]
def op_first : List Int32 := [5, 5, 5, 5, 5, 5, 5, 5, 5, 5, 5, 5, 5, 5, 2, 2, 2, 5, 4, 4, 4, 4, 4, 4, 4, 4, 1, 1, 0, 0, 0, 0, 0, 0, 2, 0, 1, 1, 1, 1, 4, 4, 5]
def op_rest : List Int32 := [5, 5, 5, 5, 5, 5, 5, 5, 5, 5, 5, 5, 5, 5, 2, 2, 2, 5, 4, 4, 4, 4, 4, 4, 4, 4, 1, 1, 0, 0, 0, 0, 0, 0, 4, 0, 1, 1, 1, 0, 4, 4, 5]
def op_result : List Int32 := [5, 5, 5, 5, 5, 5, 5, 5, 5, 5, 5, 5, 5, 5, 2, 2, 2, 2, 2, 2, 2, 2, 2, 2, 2, 2, 2, 1, 0, 0, 0, 0, 0, 0, 4, 0, 0, 1, 1, 1, 4, 4, 5]
def opF : List (String × String × String × List Int32) := [("java/lang/Enum", "ordinal", "I", op_ordinal), ("TruthBench$Op", "closing", "Z", op_closing), ("TruthBench$Op", "strict", "Z", op_strict), ("TruthBench$Op", "first", "I", op_first), ("TruthBench$Op", "rest", "I", op_rest), ("TruthBench$Op", "result", "I", op_result)]
set_option maxRecDepth 100000 in
theorem op_w_ordinal : ∀ i, i < 43 → Cond.eq (.field (.static "TruthBench$Op" (opN.getD i "") "LTruthBench$Op;") "java/lang/Enum" "ordinal" "I") (.int (op_ordinal.getD i 0)) ∈ gj_at := gj_fam gj_at [5, 288, 295, 303, 269, 215, 511, 491, 442, 449, 471, 248, 258, 230, 519, 499, 430, 422, 237, 483, 366, 374, 382, 390, 398, 406, 460, 358, 342, 350, 318, 326, 334, 310, 280, 790, 798, 806, 814, 822, 222, 830, 208] _ rfl (by decide +kernel)
set_option maxRecDepth 100000 in
theorem op_w_closing : ∀ i, i < 43 → Cond.eq (.field (.static "TruthBench$Op" (opN.getD i "") "LTruthBench$Op;") "TruthBench$Op" "closing" "Z") (.int (op_closing.getD i 0)) ∈ gj_at := gj_fam gj_at [6, 289, 296, 304, 270, 216, 512, 492, 443, 450, 472, 249, 259, 231, 520, 500, 431, 423, 238, 484, 367, 375, 383, 391, 399, 407, 461, 359, 343, 351, 319, 327, 335, 311, 281, 792, 800, 808, 816, 824, 224, 832, 209] _ rfl (by decide +kernel)
set_option maxRecDepth 100000 in
theorem op_w_strict : ∀ i, i < 43 → Cond.eq (.field (.static "TruthBench$Op" (opN.getD i "") "LTruthBench$Op;") "TruthBench$Op" "strict" "Z") (.int (op_strict.getD i 0)) ∈ gj_at := gj_fam gj_at [7, 290, 297, 305, 271, 217, 513, 493, 444, 451, 473, 250, 260, 232, 521, 501, 432, 424, 239, 485, 368, 376, 384, 392, 400, 408, 462, 360, 344, 352, 320, 328, 336, 312, 282, 793, 801, 809, 817, 825, 225, 833, 210] _ rfl (by decide +kernel)
set_option maxRecDepth 100000 in
theorem op_w_first : ∀ i, i < 43 → Cond.eq (.field (.static "TruthBench$Op" (opN.getD i "") "LTruthBench$Op;") "TruthBench$Op" "first" "I") (.int (op_first.getD i 0)) ∈ gj_at := gj_fam gj_at [8, 291, 298, 306, 272, 218, 514, 494, 445, 452, 474, 251, 261, 233, 522, 502, 433, 425, 240, 486, 369, 377, 385, 393, 401, 409, 463, 361, 345, 353, 321, 329, 337, 313, 283, 794, 802, 810, 818, 826, 226, 834, 211] _ rfl (by decide +kernel)
set_option maxRecDepth 100000 in
theorem op_w_rest : ∀ i, i < 43 → Cond.eq (.field (.static "TruthBench$Op" (opN.getD i "") "LTruthBench$Op;") "TruthBench$Op" "rest" "I") (.int (op_rest.getD i 0)) ∈ gj_at := gj_fam gj_at [9, 292, 299, 307, 273, 219, 515, 495, 446, 453, 475, 252, 262, 234, 523, 503, 434, 426, 241, 487, 370, 378, 386, 394, 402, 410, 464, 362, 346, 354, 322, 330, 338, 314, 284, 795, 803, 811, 819, 827, 227, 835, 212] _ rfl (by decide +kernel)
set_option maxRecDepth 100000 in
theorem op_w_result : ∀ i, i < 43 → Cond.eq (.field (.static "TruthBench$Op" (opN.getD i "") "LTruthBench$Op;") "TruthBench$Op" "result" "I") (.int (op_result.getD i 0)) ∈ gj_at := gj_fam gj_at [10, 293, 300, 308, 274, 220, 516, 496, 447, 454, 476, 253, 263, 235, 524, 504, 435, 427, 242, 488, 371, 379, 387, 395, 403, 411, 465, 363, 347, 355, 323, 331, 339, 315, 285, 796, 804, 812, 820, 828, 228, 836, 213] _ rfl (by decide +kernel)
set_option maxRecDepth 100000 in
theorem op_w_ex : ∀ i, i < 43 → Cond.exactly (.static "TruthBench$Op" (opN.getD i "") "LTruthBench$Op;") "TruthBench$Op" ∈ gj_at := gj_fam gj_at [4, 287, 294, 302, 268, 214, 510, 490, 441, 448, 470, 247, 257, 229, 518, 498, 429, 421, 236, 482, 365, 373, 381, 389, 397, 405, 459, 357, 341, 349, 317, 325, 333, 309, 279, 789, 797, 805, 813, 821, 221, 829, 207] _ rfl (by decide +kernel)
set_option maxRecDepth 100000 in
theorem op_w_ls : ∀ i, i < 43 → Cond.laysStatic "TruthBench$Op" (opN.getD i "") "LTruthBench$Op;" ∈ tables_1 := gj_fam tables_1 [80, 679, 685, 688, 669, 627, 775, 769, 752, 754, 762, 660, 665, 636, 777, 771, 748, 746, 646, 766, 726, 728, 730, 732, 734, 736, 758, 717, 713, 715, 699, 701, 703, 690, 673, 1890, 1891, 1892, 1893, 1894, 634, 1895, 625] _ rfl (by decide +kernel)
def sg_ordinal : List Int32 := [0, 1, 2, 3, 4, 5, 6, 7, 8, 9, 10, 11, 12, 13, 14, 15, 16, 17, 18, 19, 20, 21, 22, 23, 24, 25, 26, 27, 28, 29, 30, 31, 32, 33, 34]
def sgF : List (String × String × String × List Int32) := [("java/lang/Enum", "ordinal", "I", sg_ordinal)]
set_option maxRecDepth 100000 in
theorem sg_w_ordinal : ∀ i, i < 35 → Cond.eq (.field (.static "TruthBench$Sign" (sgN.getD i "") "LTruthBench$Sign;") "java/lang/Enum" "ordinal" "I") (.int (sg_ordinal.getD i 0)) ∈ gj_at := gj_fam gj_at [507, 479, 119, 414, 418, 438, 457, 468, 778, 245, 255, 265, 276, 782, 786, 65, 68, 71, 74, 110, 77, 113, 80, 116, 83, 86, 89, 92, 95, 98, 101, 104, 107, 17, 12] _ rfl (by decide +kernel)
set_option maxRecDepth 100000 in
theorem sg_w_ex : ∀ i, i < 35 → Cond.exactly (.static "TruthBench$Sign" (sgN.getD i "") "LTruthBench$Sign;") "TruthBench$Sign" ∈ gj_at := gj_fam gj_at [506, 478, 118, 413, 417, 437, 456, 467, 777, 244, 254, 264, 275, 781, 785, 64, 67, 70, 73, 109, 76, 112, 79, 115, 82, 85, 88, 91, 94, 97, 100, 103, 106, 16, 11] _ rfl (by decide +kernel)
set_option maxRecDepth 100000 in
theorem sg_w_ls : ∀ i, i < 35 → Cond.laysStatic "TruthBench$Sign" (sgN.getD i "") "LTruthBench$Sign;" ∈ tables_1 := gj_fam tables_1 [773, 764, 581, 738, 744, 750, 756, 760, 1886, 658, 663, 667, 671, 1887, 1888, 498, 511, 518, 527, 551, 529, 553, 531, 555, 533, 535, 537, 539, 541, 543, 545, 547, 549, 427, 118] _ rfl (by decide +kernel)
/-- the constants of an enum: they differ by their ordinals -/
theorem gj_enum {z : State} {E d : String} {nm : List String} {F : List (String × String × String × List Int32)} {ol : List Int32} (hl : ∀ i, i < nm.length → Cond.laysStatic E (nm.getD i "") d ∈ tables_1) (hini : Cond.initialized E ∈ tables_1)
    (hex : ∀ i, i < nm.length → Cond.exactly (.static E (nm.getD i "") d) E ∈ gj_at) (hf : ∀ q ∈ F, ∀ i, i < nm.length → Cond.eq (.field (.static E (nm.getD i "") d) q.1 q.2.1 q.2.2.1) (.int (q.2.2.2.getD i 0)) ∈ gj_at)
    (ho : ("java/lang/Enum", "ordinal", "I", ol) ∈ F) (hinj : ∀ i, i < nm.length → ol.getD i 0 = nI i) (hsm : nm.length < 2 ^ 31) (hz : gj_Zok z) : ∃ ad : Nat → Nat, va_En E d nm F ad (fun q => z.heap.size ≤ q) z z.heap ∧ ∀ i, i < nm.length → ∀ args : Array Value, (Term.static E (nm.getD i "") d).eval args z none [] z = some (.ref (ad i)) := by
  obtain ⟨za, ht, ha⟩ := hz.atom
  have hA : ∀ a : Nat, a < z.heap.size → ¬ z.heap.size ≤ a := fun a h => by omega
  have tin : ∀ w ∈ tables_1, w.before za z = true := fun w hw => ht w (List.mem_append_right _ hw)
  have h0 : ∀ i : Nat, ∃ t : Nat, i < nm.length → (Term.static E (nm.getD i "") d).eval za z none [] z = some (.ref t) ∧ va_O E t (fun q => z.heap.size ≤ q) z z.heap := by
    intro i
    by_cases hi : i < nm.length
    · obtain ⟨a, c, cell, k, q1, q2, q3, q4, q5, q6, -⟩ := Cond.exactly_spec (ha _ (hex i hi))
      exact ⟨a, fun _ => ⟨q1, cell, q3, q5, by rw [q6]; exact q2, hA a (Array.getElem?_eq_some_iff.mp q3).1⟩⟩
    · exact ⟨0, fun h => absurd h hi⟩
  obtain ⟨ad, had⟩ := Classical.axiomOfChoice h0
  have hof : ∀ i, i < nm.length → ∀ q ∈ F, va_OF q.1 q.2.1 q.2.2.1 (.int (q.2.2.2.getD i 0)) (ad i) (fun q => z.heap.size ≤ q) z z.heap := by
    intro i hi q hq
    have hv := va_eqt (ha _ (hf q hq i hi))
    cases hfo : z.fieldFound? q.1 q.2.1 q.2.2.1 with
    | none =>
      rw [va_fe (had i hi).1] at hv
      simp [State.fieldOf?, State.fieldNamed?, hfo] at hv
    | some x =>
      obtain ⟨cf, k, fi, f⟩ := x
      obtain ⟨g1, cell, g2, g3, -, -, g6⟩ := Term.field_spec hfo (had i hi).1 hv
      exact ⟨cf, k, fi, f, cell, hfo, g1, g2, g3, g6, hA _ (Array.getElem?_eq_some_iff.mp g2).1⟩
  refine ⟨ad, ⟨fun i hi => ⟨va_Zref (tin _ (hl i hi)) (tin _ hini) (had i hi).1 hA, (had i hi).2, hof i hi⟩, fun i j hi hj e => ?_⟩, fun i hi args => (had i hi).1⟩
  obtain ⟨_, _, _, f1, c1, a1, -, a3, -, a5, -⟩ := hof i hi _ ho
  obtain ⟨_, _, _, f2, c2, b1, -, b3, -, b5, -⟩ := hof j hj _ ho
  rw [e] at a3
  cases Option.some.inj (a3.symm.trans b3)
  have e9 := a1.symm.trans b1
  simp only [Option.some.injEq, Prod.mk.injEq] at e9
  obtain ⟨-, -, -, rfl⟩ := e9
  have e8 := Option.some.inj (a5.symm.trans b5)
  simp only [Value.int.injEq] at e8
  rw [hinj i hi, hinj j hj] at e8
  exact (nI_eq (by omega) (by omega)).mp e8
theorem op_enum {z : State} (hz : gj_Zok z) : ∃ ad : Nat → Nat, va_En "TruthBench$Op" "LTruthBench$Op;" opN opF ad (fun q => z.heap.size ≤ q) z z.heap ∧ ∀ i, i < 43 → ∀ args : Array Value, (Term.static "TruthBench$Op" (opN.getD i "") "LTruthBench$Op;").eval args z none [] z = some (.ref (ad i)) :=
  gj_enum (ol := op_ordinal) op_w_ls (List.mem_of_getElem? (i := 5) (by decide +kernel)) op_w_ex (by
    intro q hq
    simp only [opF, List.mem_cons, List.mem_nil_iff, or_false] at hq
    rcases hq with rfl | rfl | rfl | rfl | rfl | rfl
    · exact op_w_ordinal
    · exact op_w_closing
    · exact op_w_strict
    · exact op_w_first
    · exact op_w_rest
    · exact op_w_result) (by simp [opF]) (by decide +kernel) (by decide) hz
theorem sg_enum {z : State} (hz : gj_Zok z) : ∃ ad : Nat → Nat, va_En "TruthBench$Sign" "LTruthBench$Sign;" sgN sgF ad (fun q => z.heap.size ≤ q) z z.heap ∧ ∀ i, i < 35 → ∀ args : Array Value, (Term.static "TruthBench$Sign" (sgN.getD i "") "LTruthBench$Sign;").eval args z none [] z = some (.ref (ad i)) :=
  gj_enum (ol := sg_ordinal) sg_w_ls (List.mem_of_getElem? (i := 8) (by decide +kernel)) sg_w_ex (by
    intro q hq
    simp only [sgF, List.mem_cons, List.mem_nil_iff, or_false] at hq
    rcases hq with rfl
    · exact sg_w_ordinal) (by simp [sgF]) (by decide +kernel) (by decide) hz
set_option maxRecDepth 100000 in
theorem op_w_all : ∀ i, i < 43 → Cond.eq (.elem (.static "TruthBench$Op" "ALL" "[LTruthBench$Op;") (.int (Int32.ofNat i))) (.static "TruthBench$Op" (opN.getD i "") "LTruthBench$Op;") ∈ gj_at := gj_fam gj_at [164, 165, 166, 167, 168, 169, 170, 171, 172, 173, 174, 175, 176, 177, 178, 179, 180, 181, 182, 183, 184, 185, 186, 187, 188, 189, 190, 191, 192, 193, 194, 195, 196, 197, 198, 199, 200, 201, 202, 203, 204, 205, 206] _ rfl (by decide +kernel)
def op_map : List Int32 := [0, 8, 9, 10, 11, 12, 13, 14, 20, 15, 16, 17, 18, 19, 21, 22, 26, 23, 24, 25, 28, 29, 30, 31, 32, 0, 27, 33, 35, 36, 37, 0, 0, 34, 0, 1, 2, 3, 4, 6, 7, 5, 0]
set_option maxRecDepth 100000 in
theorem op_w_map : ∀ i, i < 43 → Cond.eq (.elem (.static "TruthBench$1" "$SwitchMap$TruthBench$Op" "[I") (.int (Int32.ofNat i))) (.int (op_map.getD i 0)) ∈ gj_at := gj_fam gj_at [528, 529, 530, 531, 532, 533, 534, 535, 536, 537, 538, 539, 540, 541, 542, 543, 544, 545, 546, 547, 548, 549, 550, 551, 552, 553, 554, 555, 556, 557, 558, 559, 560, 561, 562, 563, 564, 565, 566, 567, 568, 569, 570] _ rfl (by decide +kernel)
theorem op_all_arr {z : State} {ad : Nat → Nat} (had : ∀ i, i < 43 → ∀ args : Array Value, (Term.static "TruthBench$Op" (opN.getD i "") "LTruthBench$Op;").eval args z none [] z = some (.ref (ad i))) (hz : gj_Zok z) : ∃ t : Nat, va_Z "TruthBench$Op" "ALL" "[LTruthBench$Op;" (.ref t) (fun q => z.heap.size ≤ q) z z.heap ∧ va_T (.object "TruthBench$Op") t 43 (fun j => .ref (ad j)) (fun q => z.heap.size ≤ q) z z.heap := by
  obtain ⟨za, ht, ha⟩ := hz.atom
  have hA : ∀ a : Nat, a < z.heap.size → ¬ z.heap.size ≤ a := fun a h => by omega
  obtain ⟨t, h1, h2⟩ := va_Tof (tm := .static "TruthBench$Op" "ALL" "[LTruthBench$Op;") (ty := (.object "TruthBench$Op")) (N := 43) (f := fun j => .ref (ad j)) (A := fun q => z.heap.size ≤ q) (by decide) (ha _ (List.mem_of_getElem? (i := 161) (by decide +kernel))) (va_eqt (ha _ (List.mem_of_getElem? (i := 162) (by decide +kernel)))) (fun j hj => gj_eqr (ha _ (op_w_all j hj)) (had j hj za)) hA
  exact ⟨t, va_Zref (ht _ (List.mem_append_right _ (List.mem_of_getElem? (i := 622) (by decide +kernel)))) (ht _ (List.mem_append_right _ (List.mem_of_getElem? (i := 5) (by decide +kernel)))) h1 hA, h2⟩
theorem op_map_arr {z : State}  (hz : gj_Zok z) : ∃ t : Nat, va_Z "TruthBench$1" "$SwitchMap$TruthBench$Op" "[I" (.ref t) (fun q => z.heap.size ≤ q) z z.heap ∧ va_T .int t 43 (fun j => .int (op_map.getD j 0)) (fun q => z.heap.size ≤ q) z z.heap := by
  obtain ⟨za, ht, ha⟩ := hz.atom
  have hA : ∀ a : Nat, a < z.heap.size → ¬ z.heap.size ≤ a := fun a h => by omega
  obtain ⟨t, h1, h2⟩ := va_Tof (tm := .static "TruthBench$1" "$SwitchMap$TruthBench$Op" "[I") (ty := .int) (N := 43) (f := fun j => .int (op_map.getD j 0)) (A := fun q => z.heap.size ≤ q) (by decide) (ha _ (List.mem_of_getElem? (i := 526) (by decide +kernel))) (va_eqt (ha _ (List.mem_of_getElem? (i := 527) (by decide +kernel)))) (fun j hj => va_eqt (ha _ (op_w_map j hj))) hA
  exact ⟨t, va_Zref (ht _ (List.mem_append_right _ (List.mem_of_getElem? (i := 835) (by decide +kernel)))) (ht _ (List.mem_append_right _ (List.mem_of_getElem? (i := 25) (by decide +kernel)))) h1 hA, h2⟩
set_option maxRecDepth 100000 in
theorem sg_w_all : ∀ i, i < 35 → Cond.eq (.elem (.static "TruthBench$Sign" "ALL" "[LTruthBench$Sign;") (.int (Int32.ofNat i))) (.static "TruthBench$Sign" (sgN.getD i "") "LTruthBench$Sign;") ∈ gj_at := gj_fam gj_at [24, 25, 26, 27, 28, 29, 30, 31, 32, 33, 34, 35, 36, 37, 38, 39, 40, 41, 42, 43, 44, 45, 46, 47, 48, 49, 50, 51, 52, 53, 54, 55, 56, 57, 58] _ rfl (by decide +kernel)
def sg_map : List Int32 := [0, 0, 0, 0, 8, 0, 0, 0, 2, 0, 0, 0, 0, 6, 7, 1, 4, 5, 9, 10, 11, 12, 13, 14, 15, 16, 17, 18, 19, 20, 3, 0, 0, 0, 0]
set_option maxRecDepth 100000 in
theorem sg_w_map : ∀ i, i < 35 → Cond.eq (.elem (.static "TruthBench$1" "$SwitchMap$TruthBench$Sign" "[I") (.int (Int32.ofNat i))) (.int (sg_map.getD i 0)) ∈ gj_at := gj_fam gj_at [124, 125, 126, 127, 128, 129, 130, 131, 132, 133, 134, 135, 136, 137, 138, 139, 140, 141, 142, 143, 144, 145, 146, 147, 148, 149, 150, 151, 152, 153, 154, 155, 156, 157, 158] _ rfl (by decide +kernel)
theorem sg_all_arr {z : State} {ad : Nat → Nat} (had : ∀ i, i < 35 → ∀ args : Array Value, (Term.static "TruthBench$Sign" (sgN.getD i "") "LTruthBench$Sign;").eval args z none [] z = some (.ref (ad i))) (hz : gj_Zok z) : ∃ t : Nat, va_Z "TruthBench$Sign" "ALL" "[LTruthBench$Sign;" (.ref t) (fun q => z.heap.size ≤ q) z z.heap ∧ va_T (.object "TruthBench$Sign") t 35 (fun j => .ref (ad j)) (fun q => z.heap.size ≤ q) z z.heap := by
  obtain ⟨za, ht, ha⟩ := hz.atom
  have hA : ∀ a : Nat, a < z.heap.size → ¬ z.heap.size ≤ a := fun a h => by omega
  obtain ⟨t, h1, h2⟩ := va_Tof (tm := .static "TruthBench$Sign" "ALL" "[LTruthBench$Sign;") (ty := (.object "TruthBench$Sign")) (N := 35) (f := fun j => .ref (ad j)) (A := fun q => z.heap.size ≤ q) (by decide) (ha _ (List.mem_of_getElem? (i := 21) (by decide +kernel))) (va_eqt (ha _ (List.mem_of_getElem? (i := 22) (by decide +kernel)))) (fun j hj => gj_eqr (ha _ (sg_w_all j hj)) (had j hj za)) hA
  exact ⟨t, va_Zref (ht _ (List.mem_append_right _ (List.mem_of_getElem? (i := 442) (by decide +kernel)))) (ht _ (List.mem_append_right _ (List.mem_of_getElem? (i := 8) (by decide +kernel)))) h1 hA, h2⟩
theorem sg_map_arr {z : State}  (hz : gj_Zok z) : ∃ t : Nat, va_Z "TruthBench$1" "$SwitchMap$TruthBench$Sign" "[I" (.ref t) (fun q => z.heap.size ≤ q) z z.heap ∧ va_T .int t 35 (fun j => .int (sg_map.getD j 0)) (fun q => z.heap.size ≤ q) z z.heap := by
  obtain ⟨za, ht, ha⟩ := hz.atom
  have hA : ∀ a : Nat, a < z.heap.size → ¬ z.heap.size ≤ a := fun a h => by omega
  obtain ⟨t, h1, h2⟩ := va_Tof (tm := .static "TruthBench$1" "$SwitchMap$TruthBench$Sign" "[I") (ty := .int) (N := 35) (f := fun j => .int (sg_map.getD j 0)) (A := fun q => z.heap.size ≤ q) (by decide) (ha _ (List.mem_of_getElem? (i := 122) (by decide +kernel))) (va_eqt (ha _ (List.mem_of_getElem? (i := 123) (by decide +kernel)))) (fun j hj => va_eqt (ha _ (sg_w_map j hj))) hA
  exact ⟨t, va_Zref (ht _ (List.mem_append_right _ (List.mem_of_getElem? (i := 601) (by decide +kernel)))) (ht _ (List.mem_append_right _ (List.mem_of_getElem? (i := 25) (by decide +kernel)))) h1 hA, h2⟩
theorem gj_thr_of {z : State} (hz : gj_Zok z) : gj_thr z := by
  obtain ⟨za, ht, ha⟩ := hz.atom
  have hA : ∀ a : Nat, a < z.heap.size → ¬ z.heap.size ≤ a := fun a h => by omega
  exact ⟨vx_Zqof (ht _ (List.mem_append_right _ (List.mem_of_getElem? (i := 266) (by decide +kernel)))) (ht _ (List.mem_append_right _ (List.mem_of_getElem? (i := 12) (by decide +kernel)))) (ha _ (List.mem_of_getElem? (i := 14) (by decide +kernel))) hA, vx_Zqof (ht _ (List.mem_append_right _ (List.mem_of_getElem? (i := 268) (by decide +kernel)))) (ht _ (List.mem_append_right _ (List.mem_of_getElem? (i := 12) (by decide +kernel)))) (ha _ (List.mem_of_getElem? (i := 15) (by decide +kernel))) hA⟩
