/-! ===== string constants at the start. Printed by wip/tools/static2.py ===== -/
def st_own : List String := ["TruthBenchModel", "TruthBenchModel", "TruthBenchModel", "TruthBenchModel", "TruthBenchModel", "TruthBenchModel", "java/util/Arrays", "TruthBenchModel", "TruthBenchModel", "TruthBenchModel", "TruthBenchModel", "TruthBenchModel", "TruthBenchModel", "TruthBenchModel", "TruthBenchModel", "TruthBenchModel", "TruthBenchModel", "TruthBenchModel", "TruthBenchModel", "TruthBenchModel", "TruthBenchModel", "TruthBenchModel", "TruthBenchModel", "TruthBenchModel", "TruthBenchModel", "TruthBenchModel", "TruthBenchModel", "TruthBenchModel", "TruthBenchModel", "TruthBenchModel", "TruthBenchModel", "TruthBenchModel", "TruthBenchModel", "TruthBenchModel", "TruthBenchModel", "TruthBenchModel", "TruthBenchModel", "TruthBenchModel", "TruthBenchModel", "TruthBenchModel", "TruthBench$Sign", "TruthBench$Sign", "TruthBench$Op", "TruthBench$Sign", "TruthBench$Sign", "TruthBench$Sign", "TruthBench$Sign", "TruthBench$Sign", "TruthBench$Sign", "TruthBench$Sign", "TruthBench$Sign", "TruthBench$Sign", "TruthBench$Sign", "TruthBench$Sign", "TruthBench$Sign", "TruthBench$Sign", "TruthBench$Sign", "TruthBench$Op", "TruthBench$Op", "TruthBench$Op", "TruthBench$Op", "TruthBench$Op", "TruthBench$Op"]
def st_idx : List Nat := [416, 418, 420, 422, 424, 426, 337, 144, 122, 208, 254, 276, 278, 221, 280, 288, 290, 292, 294, 233, 238, 247, 261, 263, 265, 252, 256, 220, 231, 240, 242, 206, 194, 334, 336, 338, 340, 341, 343, 345, 190, 151, 252, 172, 175, 178, 181, 154, 157, 160, 163, 166, 148, 142, 169, 184, 187, 237, 240, 243, 246, 249, 255]
def st_chs : List (List Int32) := [[61], [60, 62], [60], [60, 61], [62], [62, 61], [32, 62, 32], [32, 111, 114, 32, 97, 110, 100, 32, 110, 111, 116, 32, 105, 115, 32, 110, 117, 108, 108, 32, 105, 110, 32, 108, 105, 107, 101, 32, 98, 101, 116, 119, 101, 101, 110, 32, 99, 97, 115, 101, 32, 119, 104, 101, 110, 32, 116, 104, 101, 110, 32, 101, 108, 115, 101, 32, 101, 110, 100, 32, 116, 114, 117, 101, 32, 102, 97, 108, 115, 101, 32], [40, 41, 44, 46, 59, 42, 43, 45, 47, 37, 61, 60, 62], [110, 111, 116], [45], [116, 114, 117, 101], [102, 97, 108, 115, 101], [110, 117, 108, 108], [99, 97, 115, 101], [119, 104, 101, 110], [116, 104, 101, 110], [101, 108, 115, 101], [101, 110, 100], [40], [41], [44], [42], [47], [37], [43], [124, 124], [105, 115], [105, 110], [108, 105, 107, 101], [98, 101, 116, 119, 101, 101, 110], [97, 110, 100], [111, 114], [99, 111, 97, 108, 101, 115, 99, 101], [110, 117, 108, 108, 105, 102], [97, 98, 115], [108, 101, 110, 103, 116, 104], [117, 112, 112, 101, 114], [108, 111, 119, 101, 114], [115, 117, 98, 115, 116, 114], [], [110, 111, 116], [99, 111, 97, 108, 101, 115, 99, 101], [119, 104, 101, 110], [116, 104, 101, 110], [101, 108, 115, 101], [101, 110, 100], [105, 115], [110, 117, 108, 108], [105, 110], [108, 105, 107, 101], [98, 101, 116, 119, 101, 101, 110], [97, 110, 100], [111, 114], [99, 97, 115, 101], [116, 114, 117, 101], [102, 97, 108, 115, 101], [97, 98, 115], [108, 101, 110, 103, 116, 104], [117, 112, 112, 101, 114], [108, 111, 119, 101, 114], [115, 117, 98, 115, 116, 114], [110, 117, 108, 108, 105, 102]]
def st_txt : List String := ["=", "<>", "<", "<=", ">", ">=", " > ", " or and not is null in like between case when then else end true false ", "(),.;*+-/%=<>", "not", "-", "true", "false", "null", "case", "when", "then", "else", "end", "(", ")", ",", "*", "/", "%", "+", "||", "is", "in", "like", "between", "and", "or", "coalesce", "nullif", "abs", "length", "upper", "lower", "substr", "", "not", "coalesce", "when", "then", "else", "end", "is", "null", "in", "like", "between", "and", "or", "case", "true", "false", "abs", "length", "upper", "lower", "substr", "nullif"]
set_option maxRecDepth 100000 in
theorem st_ex : ∀ i, i < 63 → Cond.exactly (.string (st_own.getD i "") (st_idx.getD i 0)) "java/lang/String" ∈ gj_at := gj_fam gj_at [971, 976, 982, 987, 993, 998, 1004, 1011, 1086, 1103, 1110, 1115, 1123, 1132, 1140, 1148, 1156, 1164, 1172, 1179, 1184, 1189, 1194, 1199, 1204, 1209, 1214, 1220, 1226, 1232, 1240, 1251, 1258, 1264, 1276, 1286, 1293, 1303, 1312, 1321, 1331, 1335, 1343, 1356, 1365, 1374, 1383, 1391, 1398, 1407, 1414, 1423, 1435, 1443, 1450, 1459, 1468, 1478, 1486, 1497, 1507, 1517, 1528] _ rfl (by decide +kernel)
set_option maxRecDepth 100000 in
theorem st_co : ∀ i, i < 63 → Cond.eq (.field (.string (st_own.getD i "") (st_idx.getD i 0)) "java/lang/String" "coder" "B") (.int 0) ∈ gj_at := gj_fam gj_at [972, 977, 983, 988, 994, 999, 1005, 1012, 1087, 1104, 1111, 1116, 1124, 1133, 1141, 1149, 1157, 1165, 1173, 1180, 1185, 1190, 1195, 1200, 1205, 1210, 1215, 1221, 1227, 1233, 1241, 1252, 1259, 1265, 1277, 1287, 1294, 1304, 1313, 1322, 1332, 1336, 1344, 1357, 1366, 1375, 1384, 1392, 1399, 1408, 1415, 1424, 1436, 1444, 1451, 1460, 1469, 1479, 1487, 1498, 1508, 1518, 1529] _ rfl (by decide +kernel)
set_option maxRecDepth 100000 in
theorem st_ar : ∀ i, i < 63 → Cond.arrayOf (.field (.string (st_own.getD i "") (st_idx.getD i 0)) "java/lang/String" "value" "[B") .byte ∈ gj_at := gj_fam gj_at [973, 978, 984, 989, 995, 1000, 1006, 1013, 1088, 1105, 1112, 1117, 1125, 1134, 1142, 1150, 1158, 1166, 1174, 1181, 1186, 1191, 1196, 1201, 1206, 1211, 1216, 1222, 1228, 1234, 1242, 1253, 1260, 1266, 1278, 1288, 1295, 1305, 1314, 1323, 1333, 1337, 1345, 1358, 1367, 1376, 1385, 1393, 1400, 1409, 1416, 1425, 1437, 1445, 1452, 1461, 1470, 1480, 1488, 1499, 1509, 1519, 1530] _ rfl (by decide +kernel)
set_option maxRecDepth 100000 in
theorem st_ln : ∀ i, i < 63 → Cond.eq (.length (.field (.string (st_own.getD i "") (st_idx.getD i 0)) "java/lang/String" "value" "[B")) (.int (Int32.ofNat (st_chs.getD i []).length)) ∈ gj_at := gj_fam gj_at [974, 979, 985, 990, 996, 1001, 1007, 1014, 1089, 1106, 1113, 1118, 1126, 1135, 1143, 1151, 1159, 1167, 1175, 1182, 1187, 1192, 1197, 1202, 1207, 1212, 1217, 1223, 1229, 1235, 1243, 1254, 1261, 1267, 1279, 1289, 1296, 1306, 1315, 1324, 1334, 1338, 1346, 1359, 1368, 1377, 1386, 1394, 1401, 1410, 1417, 1426, 1438, 1446, 1453, 1462, 1471, 1481, 1489, 1500, 1510, 1520, 1531] _ rfl (by decide +kernel)
set_option maxRecDepth 100000 in
theorem st_rf : ∀ i, i < 63 → Cond.stringRef (st_own.getD i "") (st_idx.getD i 0) (st_txt.getD i "") ∈ tables_1 := gj_fam tables_1 [1101, 1102, 1103, 1104, 1105, 1106, 1433, 1498, 1529, 1600, 1630, 1674, 1675, 1676, 1681, 1686, 1691, 1696, 1697, 1698, 1699, 1704, 1705, 1706, 1707, 1715, 1716, 1717, 1722, 1723, 1724, 1725, 1726, 1743, 1744, 1761, 1762, 1763, 1764, 1765, 1885, 1889, 1896, 1897, 1898, 1899, 1900, 1901, 1902, 1903, 1904, 1905, 1906, 1907, 1908, 1909, 1910, 1911, 1912, 1913, 1914, 1915, 1916] _ rfl (by decide +kernel)
def st_bs : List Nat := [975, 980, 986, 991, 997, 1002, 1008, 1015, 1090, 1107, 1114, 1119, 1127, 1136, 1144, 1152, 1160, 1168, 1176, 1183, 1188, 1193, 1198, 1203, 1208, 1213, 1218, 1224, 1230, 1236, 1244, 1255, 1262, 1268, 1280, 1290, 1297, 1307, 1316, 1325, 0, 1339, 1347, 1360, 1369, 1378, 1387, 1395, 1402, 1411, 1418, 1427, 1439, 1447, 1454, 1463, 1472, 1482, 1490, 1501, 1511, 1521, 1532]
set_option maxRecDepth 100000 in
theorem st_el9 : ∀ i, i < 63 → ∀ j, j < (st_chs.getD i []).length → gj_at[st_bs.getD i 0 + j]? = some (Cond.eq (.elem (.field (.string (st_own.getD i "") (st_idx.getD i 0)) "java/lang/String" "value" "[B") (.int (Int32.ofNat j))) (.int ((st_chs.getD i []).getD j 0))) := by decide +kernel
theorem st_el {i : Nat} (hi : i < 63) {j : Nat} (hj : j < (st_chs.getD i []).length) : Cond.eq (.elem (.field (.string (st_own.getD i "") (st_idx.getD i 0)) "java/lang/String" "value" "[B") (.int (Int32.ofNat j))) (.int ((st_chs.getD i []).getD j 0)) ∈ gj_at := List.mem_of_getElem? (st_el9 i hi j hj)
theorem st_by : ∀ i, i < 63 → (st_chs.getD i []).length < 2 ^ 31 ∧ ∀ j, j < (st_chs.getD i []).length → isB ((st_chs.getD i []).getD j 0) := by unfold isB; decide +kernel
def sg_str : List Nat := [53, 52, 41, 47, 48, 49, 50, 51, 54, 43, 44, 45, 46, 55, 56, 40, 40, 40, 40, 40, 40, 40, 40, 40, 40, 40, 40, 40, 40, 40, 40, 40, 40, 40, 40]
set_option maxRecDepth 100000 in
theorem sg_w_word : ∀ i, i < 35 → Cond.eq (.field (.static "TruthBench$Sign" (sgN.getD i "") "LTruthBench$Sign;") "TruthBench$Sign" "word" "Ljava/lang/String;") (.string (st_own.getD (sg_str.getD i 0) "") (st_idx.getD (sg_str.getD i 0) 0)) ∈ gj_at := gj_fam gj_at [508, 480, 120, 415, 419, 439, 458, 469, 779, 246, 256, 266, 277, 783, 787, 66, 69, 72, 75, 111, 78, 114, 81, 117, 84, 87, 90, 93, 96, 99, 102, 105, 108, 18, 13] _ rfl (by decide +kernel)
theorem sg_str_ok : ∀ i, i < 35 → sg_str.getD i 0 < 63 ∧ st_chs.getD (sg_str.getD i 0) [] = sc_sgw i := by decide +kernel
theorem ms_str_ok : ∀ q ∈ ms_tab, ∃ i, i < 63 ∧ st_own.getD i "" = "TruthBenchModel" ∧ st_idx.getD i 0 = q.1 ∧ st_chs.getD i [] = q.2 := by decide +kernel
section Strs0
variable {z : State} {op sg : Nat → Nat} {aO aS mO mS : Nat}
theorem st_all (hz : gj_Zok z) {i : Nat} (hi : i < 63) : (∀ za : Array Value, (Term.string (st_own.getD i "") (st_idx.getD i 0)).eval za z none [] z = some (.ref (strZ z (st_own.getD i "") (st_idx.getD i 0)))) ∧ ∃ b, okR z (strZ z (st_own.getD i "") (st_idx.getD i 0)) 12 ∧ okR z b 21 ∧ rdI z (strZ z (st_own.getD i "") (st_idx.getD i 0)) (hp_slot z 82) = 0 ∧ rdA z (strZ z (st_own.getD i "") (st_idx.getD i 0)) (hp_slot z 81) = some b ∧ rdL z b = (st_chs.getD i []).length ∧ ∀ j, j < (st_chs.getD i []).length → edI z b j = (st_chs.getD i []).getD j 0 := by
  obtain ⟨za, ht, ha⟩ := hz.atom
  have hr := strZ_ok (ht _ (List.mem_append_right _ (st_rf i hi)))
  have hev : ∀ za : Array Value, (Term.string (st_own.getD i "") (st_idx.getD i 0)).eval za z none [] z = some (.ref (strZ z (st_own.getD i "") (st_idx.getD i 0))) := fun za => str_ev (State.WarmedH.refl z) hr
  exact ⟨hev, ok_str ha (hev za) (st_ex i hi) (st_co i hi) (st_ar i hi) (st_ln i hi) (fun j hj => st_el hi hj) (st_by i hi).2 (st_by i hi).1⟩
/-- a string, once the tags are laid -/
theorem st_StrO (hz : gj_Zok z) {i : Nat} (hi : i < 63) {tag : Nat → Nat} (ht : ∀ a, (okR z a 12 → tag a = 12) ∧ (okR z a 20 → tag a = 20) ∧ (okR z a 21 → tag a = 21) ∧ (okR z a 22 → tag a = 22)) : StrO z (hp0 z tag) (strZ z (st_own.getD i "") (st_idx.getD i 0)) (st_chs.getD i []) := by
  obtain ⟨-, b, h1, h2, h3, h4, h5, h6⟩ := st_all hz hi
  exact ⟨(ht _).1 h1, h3, h1.1, b, h2.1, h4, (ht _).2.2.1 h2, h5, h6⟩
theorem ms0 (hz : gj_Zok z) {tag : Nat → Nat} (ht : ∀ a, (okR z a 12 → tag a = 12) ∧ (okR z a 20 → tag a = 20) ∧ (okR z a 21 → tag a = 21) ∧ (okR z a 22 → tag a = 22)) : MSt z (hp0 z tag) := fun q hq => by
  obtain ⟨i, hi, e1, e2, e3⟩ := ms_str_ok q hq
  have := st_StrO hz hi ht
  rw [e1, e2, e3] at this
  exact this
def op_str : List Nat := [57, 58, 59, 60, 61, 42, 62]
set_option maxRecDepth 100000 in
theorem op_w_word : ∀ i, i < 7 → Cond.eq (.field (.static "TruthBench$Op" (opN.getD (35 + i) "") "LTruthBench$Op;") "TruthBench$Op" "word" "Ljava/lang/String;") (.string (st_own.getD (op_str.getD i 0) "") (st_idx.getD (op_str.getD i 0) 0)) ∈ gj_at := gj_fam gj_at [791, 799, 807, 815, 823, 223, 831] _ rfl (by decide +kernel)
theorem op_str_ok : ∀ i, i < 7 → op_str.getD i 0 < 63 ∧ st_chs.getD (op_str.getD i 0) [] = sc_opw (35 + i) := by decide +kernel
theorem opw_ne : ∀ i, i < 43 → sc_opw i ≠ [] → 35 ≤ i ∧ i < 42 := by decide +kernel
/-- THE PREMISES THAT ARE WANTING: the words of the other 36 constants of Op are "" (one object with the "" of Sign) -/
def Op36 (args : Array Value) (z : State) : Prop := ∀ i, i < 43 → sc_opw i = [] → (Cond.eq (.field (.static "TruthBench$Op" (opN.getD i "") "LTruthBench$Op;") "TruthBench$Op" "word" "Ljava/lang/String;") (.string (st_own.getD 40 "") (st_idx.getD 40 0))).before args z = true
theorem op_of (hop : ∀ i, i < 43 → ∀ args : Array Value, (Term.static "TruthBench$Op" (opN.getD i "") "LTruthBench$Op;").eval args z none [] z = some (.ref (op i))) {i : Nat} (hi : i < 43) {za : Array Value} {a : Nat} (hv : (Term.field (.static "TruthBench$Op" (opN.getD i "") "LTruthBench$Op;") "TruthBench$Op" "word" "Ljava/lang/String;").eval za z none [] z = some (.ref a)) : va_OF "TruthBench$Op" "word" "Ljava/lang/String;" (.ref a) (op i) (fun q => z.heap.size ≤ q) z z.heap := by
  cases hfo : z.fieldFound? "TruthBench$Op" "word" "Ljava/lang/String;" with
  | none =>
    rw [va_fe (hop i hi za)] at hv
    simp [State.fieldOf?, State.fieldNamed?, hfo] at hv
  | some x =>
    obtain ⟨cf, k, fi, f⟩ := x
    obtain ⟨g1, cell, g2, g3, -, -, g6⟩ := Term.field_spec hfo (hop i hi za) hv
    exact ⟨cf, k, fi, f, cell, hfo, g1, g2, g3, g6, fun q => absurd (Array.getElem?_eq_some_iff.mp g2).1 (by omega)⟩
theorem ws0 {args : Array Value} (hz : gj_Zok z) (hsg : ∀ i, i < 35 → ∀ args : Array Value, (Term.static "TruthBench$Sign" (sgN.getD i "") "LTruthBench$Sign;").eval args z none [] z = some (.ref (sg i))) (hop : ∀ i, i < 43 → ∀ args : Array Value, (Term.static "TruthBench$Op" (opN.getD i "") "LTruthBench$Op;").eval args z none [] z = some (.ref (op i))) (hO : Op36 args z) {tag : Nat → Nat} (ht : ∀ a, (okR z a 12 → tag a = 12) ∧ (okR z a 20 → tag a = 20) ∧ (okR z a 21 → tag a = 21) ∧ (okR z a 22 → tag a = 22)) : WSt z (hp0 z tag) op sg := by
  refine ⟨fun i hi => ?_, fun i hi => ?_⟩
  rotate_left
  · by_cases h9 : sc_opw i = []
    · have hev := (st_all hz (i := 40) (by decide)).1 args
      have hv := gj_eqr (hO i hi h9) hev
      exact ⟨_, op_of hop hi hv, by rw [h9]; exact st_StrO hz (i := 40) (by decide) ht⟩
    · have hlt := opw_ne i hi h9
      obtain ⟨j, rfl⟩ : ∃ j, i = 35 + j := ⟨i - 35, by omega⟩
      have hj : j < 7 := by omega
      obtain ⟨k1, k2⟩ := op_str_ok j hj
      obtain ⟨za, -, ha⟩ := hz.atom
      have hev := (st_all hz k1).1 za
      have hv := gj_eqr (ha _ (op_w_word j hj)) hev
      exact ⟨_, op_of hop hi hv, by rw [← k2]; exact st_StrO hz k1 ht⟩
  obtain ⟨k1, k2⟩ := sg_str_ok i hi
  obtain ⟨za, -, ha⟩ := hz.atom
  have hev := (st_all hz k1).1 za
  have hv := gj_eqr (ha _ (sg_w_word i hi)) hev
  refine ⟨_, ?_, by rw [← k2]; exact st_StrO hz k1 ht⟩
  cases hfo : z.fieldFound? "TruthBench$Sign" "word" "Ljava/lang/String;" with
  | none =>
    rw [va_fe (hsg i hi za)] at hv
    simp [State.fieldOf?, State.fieldNamed?, hfo] at hv
  | some x =>
    obtain ⟨cf, k, fi, f⟩ := x
    obtain ⟨g1, cell, g2, g3, -, -, g6⟩ := Term.field_spec hfo (hsg i hi za) hv
    exact ⟨cf, k, fi, f, cell, hfo, g1, g2, g3, g6, fun q => absurd (Array.getElem?_eq_some_iff.mp g2).1 (by omega)⟩
end Strs0
