/-! the checks: what an instruction links stands in the tables -/
def nd (own : String) (q : Nat × En) : List (Nat × Jvm.Cond) := match q.2.1, q.2.2.2.1 with
  | .getfield ix, [ci, k, p] => if ci = 40 then [(p, .fieldLink own ix "java/lang/String" (if k = 0 then "value" else "coder") (if k = 0 then "[B" else "B"))] else match zcl[ci]? with
    | some (C, T, _) => [(p, .fieldLink own ix C (T k).2.1 (T k).2.2.1)]
    | none => [(0, .initialized "")]
  | .putfield ix, [ci, k, p] => match zcl[ci]? with
    | some (C, T, _) => [(p, .fieldLink own ix C (T k).2.1 (T k).2.2.1)]
    | none => [(0, .initialized "")]
  | .getstatic ix, [z, n, p] => [(p, if n = 1 then .fieldLinkNest own ix "CliffWater" (if z = 0 then "SMALLEST" else "GREATEST") "[I" "CliffWater" else if z = 2 then .fieldLink own ix "java/lang/String" "COMPACT_STRINGS" "Z" else .fieldLink own ix "jdk/internal/util/Preconditions" "SIOOBE_FORMATTER" "Ljava/util/function/BiFunction;")]
  | .ldc ix, [0, p] => [(p, .constant own ix (Int32.ofInt q.2.2.2.2))]
  | .ldc_w ix, [p] => [(p, .constant own ix (Int32.ofInt q.2.2.2.2))]
  | .ldc2_w ix, [p] => [(p, .constantLong own ix (Int64.ofInt q.2.2.2.2))]
  | .new ix, [ci, n, p1, p2, p3] => match zcl[ci]? with
    | some (C, _, N) => [(p1, .classLink own ix C), (p2, .instantiable C N), (p3, .initialized C)]
    | none => [(0, .initialized "")]
  | .newarray t, [p] => [(p, .arrayClass (newarray.typeOf t))]
  | .anewarray ix, [p1, p2] => [(p1, .classLink own ix "CliffWater$Told"), (p2, .arrayOver (.object "CliffWater$Told"))]
  | .multianewarray ix _, [p1, p2, p3] => [(p1, .classLink own ix "[[I"), (p2, .arrayOver (.array .int)), (p3, .arrayClass .int)]
  | .invokespecial ix, [0, p1, p2, p3] => [(p1, .methodLink own ix objectInit), (p2, .instanceMethod objectInit), (p3, .code objectInit ⟨#[0xb1]⟩ 1 none)]
  | .invokestatic ix, [1, p1, p2, p3, p4] => [(p1, .methodLink own ix Lib.Math.min.name), (p2, .static Lib.Math.min.name), (p3, .initialized "java/lang/Math"), (p4, .code Lib.Math.min.name Lib.Math.min.code 2 (some .int))]
  | .invokestatic ix, [2, p1, p2, p3, p4] => [(p1, .methodLink own ix Lib.Math.max.name), (p2, .static Lib.Math.max.name), (p3, .initialized "java/lang/Math"), (p4, .code Lib.Math.max.name Lib.Math.max.code 2 (some .int))]
  | .invokestatic ix, [3, p1, p2, p3, p4] => [(p1, .methodLink own ix arraycopyName), (p2, .native arraycopyName), (p3, .static arraycopyName), (p4, .initialized "java/lang/System")]
  | .invokestatic ix, [k, mid, _, _, p1, p2, p3] => match mtl[mid]? with
    | some mi => [(p1, if k = 14 then .methodLinkNest own ix mi.1 "CliffWater" else .methodLink own ix mi.1), (p2, .static mi.1), (p3, .initialized mi.1.cls)]
    | none => [(0, .initialized "")]
  | .invokespecial ix, [k, mid, _, _, p1, p2, p3] => match mtl[mid]? with
    | some mi => [(p1, if k = 15 then .methodLinkNest own ix mi.1 "CliffWater" else .methodLink own ix mi.1), (p2, .instanceMethod mi.1), (p3, .initialized mi.1.cls)]
    | none => [(0, .initialized "")]
  | .invokevirtual ix, [k, mid, _, _, p1, p2, p3, p4] => match mtl[mid]? with
    | some mi => [(p1, if k = 13 then .methodLinkNest own ix mi.1 "CliffWater" else .methodLink own ix mi.1), (p2, .instanceMethod mi.1), (p3, .selects mi.1.cls mi.1 mi.1), (p4, .initialized mi.1.cls)]
    | none => [(0, .initialized "")]
  | _, _ => []
/-- what else must be so of an instruction -/
def xd (own nm : String) (q : Nat × En) : Bool := match q.2.1, q.2.2.2.1 with
  | .getfield _, au => match au with
    | [ci, k, _] => match zcl[ci]? with
      | some (_, _, N) => decide (k < N)
      | none => decide (ci = 40 ∧ k < 2)
    | _ => false
  | .putfield _, au => match au with
    | [ci, k, _] => match zcl[ci]? with
      | some (C, T, N) => decide (k < N) && (!(T k).2.2.2 || (decide (nm = "<init>") && decide ((T k).1 = own)))
      | none => false
    | _ => false
  | .getstatic _, au => match au with
    | [z, n, _] => decide (z < 4 ∧ (n = 1 ↔ z < 2))
    | _ => false
  | .ldc ix, au => match au with
    | [0, _] => true
    | [1, j, _] => decide (own = "CliffWater$Tokens" ∧ j < 12 ∧ ix = 17 + 2 * j)
    | _ => false
  | .ldc_w _, au => decide (au.length = 1)
  | .ldc2_w _, au => decide (au.length = 1)
  | .new _, au => match au with
    | [ci, n, _, _, _] => match zcl[ci]? with
      | some (_, _, N) => decide (n = N)
      | none => false
    | _ => false
  | .newarray _, au => decide (au.length = 1)
  | .anewarray _, au => decide (au.length = 2)
  | .multianewarray _ d, au => decide (au.length = 3 ∧ d = 2)
  | .aastore, au => decide (au = [8])
  | .invokespecial _, au => match au with
    | [0, _, _, _] => true
    | [k, mid, n, _, _, _, _] => match mtl[mid]? with
      | some mi => decide (mid < 240 ∧ (k = 12 ∨ k = 15) ∧ mi.1.name = "<init>" ∧ (parseMethodDescriptor mi.1.desc).map (fun d => d.parameters.length + 1) = some n ∧ mi.2.2.2.1 = none)
      | none => false
    | _ => false
  | .invokestatic _, au => match au with
    | [k, _, _, _, _] => decide (k < 4)
    | [k, mid, n, _, _, _, _] => match mtl[mid]? with
      | some mi => decide (mid < 240 ∧ (k = 11 ∨ k = 14) ∧ (parseMethodDescriptor mi.1.desc).map (fun d => d.parameters.length) = some n)
      | none => false
    | _ => decide (au = [99])
  | .invokevirtual _, au => match au with
    | [k, mid, n, rc, _, _, _, _] => match mtl[mid]? with
      | some mi => decide (mid < 240 ∧ (k = 10 ∨ k = 13) ∧ (if rc = 40 then some "java/lang/String" else (zcl[rc]?).map (·.1)) = some mi.1.cls ∧ (parseMethodDescriptor mi.1.desc).map (fun d => d.parameters.length + 1) = some n)
      | none => false
    | _ => false
  | _, _ => true
def isNst (w : Jvm.Cond) : Bool := match w with
  | .methodLinkNest _ _ _ _ => true
  | .fieldLinkNest _ _ _ _ _ _ => true
  | .arrayOver _ => true
  | _ => false
def lnO (i : Instr) : Nat := match i with
  | .bipush _ => 2
  | .sipush _ => 3
  | .ldc _ => 2
  | .ldc_w _ => 3
  | .ldc2_w _ => 3
  | .iload _ => 2
  | .lload _ => 2
  | .aload _ => 2
  | .istore _ => 2
  | .lstore _ => 2
  | .astore _ => 2
  | .iinc _ _ => 3
  | .goto _ => 3
  | .if_icmp _ _ => 3
  | .ifCond _ _ => 3
  | .ifnonnull _ => 3
  | .tableswitch _ _ _ _ => 0
  | .lookupswitch _ _ => 0
  | .getfield _ => 3
  | .putfield _ => 3
  | .getstatic _ => 3
  | .newarray _ => 2
  | .anewarray _ => 3
  | .multianewarray _ _ => 4
  | .new _ => 3
  | .invokespecial _ => 3
  | .invokestatic _ => 3
  | .invokevirtual _ => 3
  | _ => 1
def okE (own nm : String) (b : ByteArray) (q : Nat × En) : Bool := decide (decode b q.1 = .ok (q.2.1, q.2.2.1)) && (decide (lnO q.2.1 = 0 ∨ lnO q.2.1 = q.2.2.1) && (xd own nm q && (nd own q).all (fun w => decide (lw_tbl[w.1]? = some w.2) && (goodWord w.2 || isNst w.2))))
def okM (p : Nat) (mi : Mi) : Prop := (∀ q ∈ mi.2.2.2.2, okE mi.1.cls mi.1.name mi.2.1 q = true) ∧ plainName mi.1.cls = true ∧ (mi.1.cls ≠ "java/lang/invoke/MethodHandle" ∧ mi.1.cls ≠ "java/lang/invoke/VarHandle") ∧ mi.2.2.1 ≤ 20 ∧ goodWord (.code mi.1 mi.2.1 mi.2.2.1 mi.2.2.2.1) = true ∧ (p ≠ 0 → lw_tbl[p]? = some (.code mi.1 mi.2.1 mi.2.2.1 mi.2.2.2.1))
theorem okM_of {p : Nat} {mi : Mi} (h : mi.2.2.2.2.all (okE mi.1.cls mi.1.name mi.2.1) = true) (h2 : plainName mi.1.cls = true) (h3 : mi.1.cls ≠ "java/lang/invoke/MethodHandle" ∧ mi.1.cls ≠ "java/lang/invoke/VarHandle") (h4 : mi.2.2.1 ≤ 20) (h5 : goodWord (.code mi.1 mi.2.1 mi.2.2.1 mi.2.2.2.1) = true) (h6 : p ≠ 0 → lw_tbl[p]? = some (.code mi.1 mi.2.1 mi.2.2.1 mi.2.2.2.1)) : okM p mi := ⟨List.all_eq_true.mp h, h2, h3, h4, h5, h6⟩
def cps : List Nat := [351, 1106, 1122, 1118, 1130, 1135, 1143, 1152, 1114, 1126, 1139, 1156, 1148, 1201, 270, 805, 809, 1168, 1194, 276, 970, 126, 571, 590, 604, 594, 1053, 582, 600, 620, 743, 739, 1164, 616, 691, 695, 706, 722, 699, 713, 718, 702, 1180, 414, 821, 826, 836, 912, 919, 923, 936, 940, 951, 958, 962, 931, 966, 947, 927, 459, 787, 796, 996, 1001, 1008, 1012, 1016, 1020, 1027, 1035, 216, 762, 758, 672, 676, 792, 680, 1186, 829, 832, 908, 954, 943, 915, 839, 842, 857, 120, 1176, 496, 1058, 1098, 1062, 1066, 1077, 1081, 1090, 1086, 1070, 395, 632, 638, 642, 647, 655, 687, 112, 568, 586, 608, 612, 624, 628, 651, 660, 726, 730, 735, 747, 751, 766, 770, 774, 778, 782, 801, 813, 817, 984, 988, 992, 1031, 1039, 1094, 1102, 1110, 1160, 1172, 1206, 578, 683, 754, 668, 664, 1043, 973, 1190, 980, 1211, 1322, 1331, 1388, 1335, 1347, 1319, 1316, 1327, 1339, 1351, 1343, 1355, 1367, 1376, 1363, 1359, 1372, 1400, 1412, 1408, 1416, 1404, 1380, 1384, 1420, 1428, 1424, 1432, 1436, 1440, 1396, 1444, 1448, 1392, 1452, 1456, 1464, 1460, 1469, 1473, 1485, 1488, 1506, 1496, 1499, 1493, 1509, 1481, 1529, 1517, 1521, 1541, 1533, 1525, 1537, 1513, 1477, 1545, 1549, 1561, 1569, 1573, 1565, 1557, 1553, 1577, 1589, 1593, 1597, 1601, 1585, 1581, 1605, 1609, 1617, 1625, 1621, 1629, 1613, 1633, 1637, 1641, 1046, 861, 871, 865, 875, 881, 878, 220, 886, 0]
theorem okm_all : ∀ q ∈ cps.zip mtl, okM q.1 q.2 := sorry
