/-! Classes and fields, by number. Printed by wip/tools. -/
def ct_tab : List (String × Option FieldType × List Nat) := [
  ("", none, []),
  ("TruthBench", none, [0, 1, 2, 3, 4, 5, 6, 7, 8, 9, 10]),
  ("TruthBench$Slots", none, [11, 12, 13, 14]),
  ("TruthBench$Program", none, [15, 16, 17, 18, 19]),
  ("TruthBench$Scanner", none, [20, 21, 22, 23, 24, 25, 26]),
  ("TruthBench$Parser", none, [27, 28, 29, 30, 31]),
  ("TruthBench$Checker", none, [32, 33, 34, 35]),
  ("TruthBench$Worker", none, [36, 37, 38]),
  ("TruthBenchModel", none, [39, 40, 41, 42, 43, 44, 45, 46, 47, 48, 49, 50, 51, 52, 53, 54, 55, 56, 57, 58, 59, 60, 61, 62]),
  ("TruthBenchModel$N", none, [63, 64, 65, 66, 67, 68, 69]),
  ("TruthBenchModel$V", none, [70, 71, 72, 73]),
  ("TruthBenchModel$Wrong", none, [74, 75, 76, 77, 78, 79, 80]),
  ("java/lang/String", none, [81, 82]),
  ("java/lang/StringBuilder", none, [85, 86, 87, 88]),
  ("java/lang/IndexOutOfBoundsException", none, []),
  ("java/lang/IllegalArgumentException", none, []),
  ("java/lang/UnsupportedOperationException", none, []),
  ("java/lang/IllegalStateException", none, []),
  ("java/lang/ArithmeticException", none, []),
  ("TruthBench$Sign", none, []),
  ("TruthBench$Op", none, []),
  ("[B", some .byte, []),
  ("[I", some .int, []),
  ("[J", some .long, []),
  ("[Z", some .boolean, []),
  ("[LTruthBench$Op;", some (.object "TruthBench$Op"), []),
  ("[LTruthBenchModel$N;", some (.object "TruthBenchModel$N"), []),
  ("[LTruthBenchModel$V;", some (.object "TruthBenchModel$V"), []),
  ("[Ljava/lang/String;", some (.object "java/lang/String"), [])]
def ft_tab : List (String × String × String × Bool × FieldType) := [
  ("TruthBench", "tape", "[B", true, (.array .byte)),
  ("TruthBench", "tapeLength", "I", false, .int),
  ("TruthBench", "registerKinds", "[I", true, (.array .int)),
  ("TruthBench", "slots", "LTruthBench$Slots;", true, (.object "TruthBench$Slots")),
  ("TruthBench", "program", "LTruthBench$Program;", false, (.object "TruthBench$Program")),
  ("TruthBench", "spare", "LTruthBench$Program;", false, (.object "TruthBench$Program")),
  ("TruthBench", "parser", "LTruthBench$Parser;", true, (.object "TruthBench$Parser")),
  ("TruthBench", "checker", "LTruthBench$Checker;", true, (.object "TruthBench$Checker")),
  ("TruthBench", "worker", "LTruthBench$Worker;", true, (.object "TruthBench$Worker")),
  ("TruthBench", "place", "I", false, .int),
  ("TruthBench", "latestError", "I", false, .int),
  ("TruthBench$Slots", "kinds", "[I", true, (.array .int)),
  ("TruthBench$Slots", "numbers", "[J", true, (.array .long)),
  ("TruthBench$Slots", "characters", "[B", true, (.array .byte)),
  ("TruthBench$Slots", "covered", "[Z", true, (.array .boolean)),
  ("TruthBench$Program", "ops", "[LTruthBench$Op;", true, (.array (.object "TruthBench$Op"))),
  ("TruthBench$Program", "arguments", "[J", true, (.array .long)),
  ("TruthBench$Program", "characters", "[B", true, (.array .byte)),
  ("TruthBench$Program", "charactersLength", "I", false, .int),
  ("TruthBench$Program", "length", "I", false, .int),
  ("TruthBench$Scanner", "bytes", "[B", true, (.array .byte)),
  ("TruthBench$Scanner", "length", "I", false, .int),
  ("TruthBench$Scanner", "at", "I", false, .int),
  ("TruthBench$Scanner", "sign", "LTruthBench$Sign;", false, (.object "TruthBench$Sign")),
  ("TruthBench$Scanner", "start", "I", false, .int),
  ("TruthBench$Scanner", "after", "I", false, .int),
  ("TruthBench$Scanner", "number", "J", false, .long),
  ("TruthBench$Parser", "scanner", "LTruthBench$Scanner;", true, (.object "TruthBench$Scanner")),
  ("TruthBench$Parser", "bytes", "[B", true, (.array .byte)),
  ("TruthBench$Parser", "program", "LTruthBench$Program;", false, (.object "TruthBench$Program")),
  ("TruthBench$Parser", "place", "I", false, .int),
  ("TruthBench$Parser", "operators", "I", false, .int),
  ("TruthBench$Checker", "kinds", "[I", true, (.array .int)),
  ("TruthBench$Checker", "size", "I", false, .int),
  ("TruthBench$Checker", "error", "I", false, .int),
  ("TruthBench$Checker", "found", "I", false, .int),
  ("TruthBench$Worker", "slots", "LTruthBench$Slots;", true, (.object "TruthBench$Slots")),
  ("TruthBench$Worker", "top", "I", false, .int),
  ("TruthBench$Worker", "error", "I", false, .int),
  ("TruthBenchModel", "wrong", "LTruthBenchModel$Wrong;", true, (.object "TruthBenchModel$Wrong")),
  ("TruthBenchModel", "pool", "[LTruthBenchModel$V;", false, (.array (.object "TruthBenchModel$V"))),
  ("TruthBenchModel", "pooled", "I", false, .int),
  ("TruthBenchModel", "source", "[B", false, (.array .byte)),
  ("TruthBenchModel", "length", "I", false, .int),
  ("TruthBenchModel", "kind", "I", false, .int),
  ("TruthBenchModel", "from", "I", false, .int),
  ("TruthBenchModel", "to", "I", false, .int),
  ("TruthBenchModel", "word", "Ljava/lang/String;", false, (.object "java/lang/String")),
  ("TruthBenchModel", "numeral", "J", false, .long),
  ("TruthBenchModel", "string", "LTruthBenchModel$V;", false, (.object "TruthBenchModel$V")),
  ("TruthBenchModel", "open", "I", false, .int),
  ("TruthBenchModel", "operators", "I", false, .int),
  ("TruthBenchModel", "comparisons", "[Ljava/lang/String;", true, (.array (.object "java/lang/String"))),
  ("TruthBenchModel", "fits", "[Z", true, (.array .boolean)),
  ("TruthBenchModel", "tape", "[B", true, (.array .byte)),
  ("TruthBenchModel", "taped", "I", false, .int),
  ("TruthBenchModel", "registers", "[LTruthBenchModel$V;", true, (.array (.object "TruthBenchModel$V"))),
  ("TruthBenchModel", "kinds", "[I", true, (.array .int)),
  ("TruthBenchModel", "root", "LTruthBenchModel$N;", false, (.object "TruthBenchModel$N")),
  ("TruthBenchModel", "held", "LTruthBenchModel$V;", true, (.object "TruthBenchModel$V")),
  ("TruthBenchModel", "place", "I", false, .int),
  ("TruthBenchModel", "error", "I", false, .int),
  ("TruthBenchModel", "code", "I", false, .int),
  ("TruthBenchModel$N", "op", "I", false, .int),
  ("TruthBenchModel$N", "kind", "I", false, .int),
  ("TruthBenchModel$N", "name", "Ljava/lang/String;", false, (.object "java/lang/String")),
  ("TruthBenchModel$N", "literal", "LTruthBenchModel$V;", false, (.object "TruthBenchModel$V")),
  ("TruthBenchModel$N", "parts", "[LTruthBenchModel$N;", false, (.array (.object "TruthBenchModel$N"))),
  ("TruthBenchModel$N", "count", "I", false, .int),
  ("TruthBenchModel$N", "type", "I", false, .int),
  ("TruthBenchModel$V", "type", "I", false, .int),
  ("TruthBenchModel$V", "n", "J", false, .long),
  ("TruthBenchModel$V", "length", "I", false, .int),
  ("TruthBenchModel$V", "text", "[B", true, (.array .byte)),
  ("java/lang/Throwable", "cause", "Ljava/lang/Throwable;", false, (.object "java/lang/Throwable")),
  ("java/lang/Throwable", "stackTrace", "[Ljava/lang/StackTraceElement;", false, (.array (.object "java/lang/StackTraceElement"))),
  ("java/lang/Throwable", "suppressedExceptions", "Ljava/util/List;", false, (.object "java/util/List")),
  ("java/lang/Throwable", "detailMessage", "Ljava/lang/String;", false, (.object "java/lang/String")),
  ("java/lang/Throwable", "backtrace", "Ljava/lang/Object;", false, (.object "java/lang/Object")),
  ("TruthBenchModel$Wrong", "error", "I", false, .int),
  ("java/lang/Throwable", "depth", "I", false, .int),
  ("java/lang/String", "value", "[B", true, (.array .byte)),
  ("java/lang/String", "coder", "B", true, .byte),
  ("java/lang/String", "hash", "I", false, .int),
  ("java/lang/String", "hashIsZero", "Z", false, .boolean),
  ("java/lang/AbstractStringBuilder", "value", "[B", false, (.array .byte)),
  ("java/lang/AbstractStringBuilder", "coder", "B", false, .byte),
  ("java/lang/AbstractStringBuilder", "maybeLatin1", "Z", false, .boolean),
  ("java/lang/AbstractStringBuilder", "count", "I", false, .int)]
def ct_at (t : Nat) : String × Option FieldType × List Nat := ct_tab.getD t ("", none, [])
def ct_name (t : Nat) : String := (ct_at t).1
def ct_arr (t : Nat) : Option FieldType := (ct_at t).2.1
def ct_flds (t : Nat) : List Nat := (ct_at t).2.2
def ft_at (f : Nat) : String × String × String × Bool × FieldType := ft_tab.getD f ("", "", "", false, .int)
def ft_own (f : Nat) : String := (ft_at f).1
def ft_name (f : Nat) : String := (ft_at f).2.1
def ft_desc (f : Nat) : String := (ft_at f).2.2.1
def ft_fin (f : Nat) : Bool := (ft_at f).2.2.2.1
def ft_ty (f : Nat) : FieldType := (ft_at f).2.2.2.2
def ft_layN (n : String) (f : Nat) : Cond := if ft_fin f = true then .laysFinal n (ft_own f) (ft_name f) (ft_desc f) else .lays n (ft_own f) (ft_name f) (ft_desc f)
def ft_lay (t f : Nat) : Cond := if ft_fin f = true then .laysFinal (ct_name t) (ft_own f) (ft_name f) (ft_desc f) else .lays (ct_name t) (ft_own f) (ft_name f) (ft_desc f)
theorem ct_cases (t : Nat) : ct_at t ∈ ct_tab ∨ ct_flds t = [] ∧ ct_arr t = none := by
  unfold ct_flds ct_arr ct_at
  rw [List.getD_eq_getElem?_getD]
  cases h : ct_tab[t]? with
  | none => exact Or.inr ⟨rfl, rfl⟩
  | some x => exact Or.inl (List.mem_of_getElem? h)
/-- the types that fields and elements have here -/
def gj_okty : FieldType → Bool
  | .int | .long | .byte | .boolean | .char | .short | .object _ | .array _ => true
  | _ => false
/-- an array's word -/
def ct_aw : FieldType → Cond
  | .object C => .arrayOver (.object C)
  | ty => .arrayClass ty
def ct_pos : List (List Nat) := [[], [208, 210, 212, 214, 216, 218, 220, 222, 224, 226, 228], [58, 60, 62, 64], [94, 96, 98, 100, 102], [130, 132, 134, 136, 138, 140, 142], [150, 152, 154, 156, 158], [172, 174, 176, 178], [190, 192, 194], [1153, 1155, 1157, 1159, 1161, 1163, 1165, 1167, 1169, 1171, 1173, 1175, 1177, 1179, 1181, 1183, 1185, 1187, 1189, 1191, 1193, 1195, 1197, 1199], [1659, 1661, 1663, 1665, 1667, 1669, 1671], [1120, 1122, 1124, 1126], [1075, 1076, 1077, 1078, 1079, 1093, 1095], [1489, 1491], [1279, 1281, 1283, 1285], [], [], [], [], [], [], [], [], [], [], [], [], [], [], []]
set_option maxRecDepth 100000 in
theorem ct_layC : ∀ c ∈ ct_tab.zip ct_pos, ∀ q ∈ c.1.2.2.zip c.2, tables_1[q.2]? = some (ft_layN c.1.1 q.1) ∧ goodWord (ft_layN c.1.1 q.1) = true := by decide +kernel
set_option maxRecDepth 100000 in
theorem ct_len : ∀ c ∈ ct_tab.zip ct_pos, c.1.2.2.length = c.2.length := by decide +kernel
theorem ct_tabzip {c : String × Option FieldType × List Nat} (h : c ∈ ct_tab) : ∃ p, (c, p) ∈ ct_tab.zip ct_pos := by
  obtain ⟨i, hi⟩ := List.getElem?_of_mem h
  have hlt : i < ct_tab.length := (List.getElem?_eq_some_iff.mp hi).1
  have hlt2 : i < ct_pos.length := Nat.lt_of_lt_of_eq hlt (by decide +kernel)
  exact ⟨ct_pos[i], List.mem_of_getElem? (i := i) (by rw [List.getElem?_zip_eq_some]; exact ⟨hi, List.getElem?_eq_getElem hlt2⟩)⟩
theorem ct_lay (t f : Nat) (h : f ∈ ct_flds t) : ft_lay t f ∈ tw_all := by
  rcases ct_cases t with hc | ⟨hc, -⟩
  · obtain ⟨p, hp⟩ := ct_tabzip hc
    obtain ⟨i, hi⟩ := List.getElem?_of_mem h
    have hlen := ct_len _ hp
    have hlt : i < p.length := by rw [← hlen]; exact (List.getElem?_eq_some_iff.mp hi).1
    have := ct_layC _ hp (f, p[i]) (List.mem_of_getElem? (i := i) (by rw [List.getElem?_zip_eq_some]; exact ⟨hi, List.getElem?_eq_getElem hlt⟩))
    exact tw_at _ this.1 this.2
  · rw [hc] at h
    cases h
set_option maxRecDepth 100000 in
theorem ct_parseC : ∀ c ∈ ct_tab, ∀ f ∈ c.2.2, parseFieldDescriptor (ft_desc f) = some (ft_ty f) ∧ gj_okty (ft_ty f) = true := by decide +kernel
theorem ct_parse (t f : Nat) (h : f ∈ ct_flds t) : parseFieldDescriptor (ft_desc f) = some (ft_ty f) := by
  rcases ct_cases t with hc | ⟨hc, -⟩
  · exact (ct_parseC _ hc f h).1
  · rw [hc] at h
    cases h
theorem ct_okty (t f : Nat) (h : f ∈ ct_flds t) : gj_okty (ft_ty f) = true := by
  rcases ct_cases t with hc | ⟨hc, -⟩
  · exact (ct_parseC _ hc f h).2
  · rw [hc] at h
    cases h
set_option maxRecDepth 100000 in
theorem ct_namesC : ∀ c ∈ ct_tab, ∀ f ∈ c.2.2, ∀ g ∈ c.2.2, g ≠ f → ft_name g ≠ ft_name f := by decide +kernel
theorem ct_names (t f g : Nat) (hf : f ∈ ct_flds t) (hg : g ∈ ct_flds t) (hne : g ≠ f) : ft_name g ≠ ft_name f := by
  rcases ct_cases t with hc | ⟨hc, -⟩
  · exact ct_namesC _ hc f hf g hg hne
  · rw [hc] at hf
    cases hf
def ct_apos : List Nat := [0, 0, 0, 0, 0, 0, 0, 0, 0, 0, 0, 0, 0, 0, 0, 0, 0, 0, 0, 0, 0, 67, 68, 69, 70, 78, 1649, 1098, 1100]
def ct_aok (c : (String × Option FieldType × List Nat) × Nat) : Bool := match c.1.2.1 with
  | none => true
  | some ty => decide (tables_1[c.2]? = some (ct_aw ty)) && decide (c.1.1 = "[" ++ ty.toString)
set_option maxRecDepth 100000 in
theorem ct_awC : ∀ c ∈ ct_tab.zip ct_apos, ct_aok c = true := by decide +kernel
theorem ct_aword (t : Nat) (ty : FieldType) (h : ct_arr t = some ty) : ct_aw ty ∈ lw_tbl ∧ ct_name t = "[" ++ ty.toString := by
  rcases ct_cases t with hc | ⟨-, hc⟩
  · obtain ⟨i, hi⟩ := List.getElem?_of_mem hc
    have hlt : i < ct_tab.length := (List.getElem?_eq_some_iff.mp hi).1
    have hlt2 : i < ct_apos.length := Nat.lt_of_lt_of_eq hlt (by decide +kernel)
    have q := ct_awC (ct_at t, ct_apos[i]) (List.mem_of_getElem? (i := i) (by rw [List.getElem?_zip_eq_some]; exact ⟨hi, List.getElem?_eq_getElem hlt2⟩))
    unfold ct_aok at q
    have h' : (ct_at t).2.1 = some ty := h
    simp only [h', Bool.and_eq_true, decide_eq_true_eq] at q
    exact ⟨List.mem_append_right _ (List.mem_of_getElem? q.1), q.2⟩
  · rw [hc] at h
    cases h
