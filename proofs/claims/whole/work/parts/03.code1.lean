/-! the checks: what an instruction links stands in the tables -/
def nd (own : String) (q : Nat × En) : List (Nat × Jvm.Cond) := match q.2.1, q.2.2.2.1 with
  | .getfield ix, [ci, k, p] => if ci = 40 then [(p, .fieldLink own ix "java/lang/String" (if k = 0 then "value" else "coder") (if k = 0 then "[B" else "B"))] else match zcl[ci]? with
    | some (C, T, _) => [(p, .fieldLink own ix C (T k).2.1 (T k).2.2.1)]
    | none => [(0, .initialized "")]
  | .putfield ix, [ci, k, p] => match zcl[ci]? with
    | some (C, T, _) => [(p, .fieldLink own ix C (T k).2.1 (T k).2.2.1)]
    | none => [(0, .initialized "")]
  | .getstatic ix, [z, n, p] => [(p, if n = 1 then .fieldLinkNest own ix "CliffWater" (if z = 0 then "SMALLEST" else "GREATEST") "[I" "CliffWater" else if z = 2 then .fieldLink own ix "java/lang/String" "COMPACT_STRINGS" "Z" else .fieldLink own ix "jdk/internal/util/Preconditions" "SIOOBE_FORMATTER" "Ljava/util/function/BiFunction;")]
  | .ldc ix, [0, p] => [(p, .constant own ix (Int32.ofInt q.2.2.2.2))]
  | .ldc_w ix, [p] => [(p, .constant own ix (Int32.ofInt q.2.2.2.2))]
  | .ldc2_w ix, [p] => [(p, .constantLong own ix (Int64.ofInt q.2.2.2.2))]
  | .new ix, [ci, n, p1, p2, p3] => match zcl[ci]? with
    | some (C, _, N) => [(p1, .classLink own ix C), (p2, .instantiable C N), (p3, .initialized C)]
    | none => [(0, .initialized "")]
  | .newarray t, [p] => [(p, .arrayClass (newarray.typeOf t))]
  | .anewarray ix, [p1, p2] => [(p1, .classLink own ix "CliffWater$Told"), (p2, .arrayOver (.object "CliffWater$Told"))]
  | .multianewarray ix _, [p1, p2, p3] => [(p1, .classLink own ix "[[I"), (p2, .arrayOver (.array .int)), (p3, .arrayClass .int)]
  | .invokespecial ix, [0, p1, p2, p3] => [(p1, .methodLink own ix objectInit), (p2, .instanceMethod objectInit), (p3, .code objectInit ⟨#[0xb1]⟩ 1 none)]
  | .invokestatic ix, [1, p1, p2, p3, p4] => [(p1, .methodLink own ix Lib.Math.min.name), (p2, .static Lib.Math.min.name), (p3, .initialized "java/lang/Math"), (p4, .code Lib.Math.min.name Lib.Math.min.code 2 (some .int))]
  | .invokestatic ix, [2, p1, p2, p3, p4] => [(p1, .methodLink own ix Lib.Math.max.name), (p2, .static Lib.Math.max.name), (p3, .initialized "java/lang/Math"), (p4, .code Lib.Math.max.name Lib.Math.max.code 2 (some .int))]
  | .invokestatic ix, [3, p1, p2, p3, p4] => [(p1, .methodLink own ix arraycopyName), (p2, .native arraycopyName), (p3, .static arraycopyName), (p4, .initialized "java/lang/System")]
  | .invokestatic ix, [k, mid, _, _, p1, p2, p3] => match mtl[mid]? with
    | some mi => [(p1, if k = 14 then .methodLinkNest own ix mi.1 "CliffWater" else .methodLink own ix mi.1), (p2, .static mi.1), (p3, .initialized mi.1.cls)]
    | none => [(0, .initialized "")]
  | .invokespecial ix, [k, mid, _, _, p1, p2, p3] => match mtl[mid]? with
    | some mi => [(p1, if k = 15 then .methodLinkNest own ix mi.1 "CliffWater" else .methodLink own ix mi.1), (p2, .instanceMethod mi.1), (p3, .initialized mi.1.cls)]
    | none => [(0, .initialized "")]
  | .invokevirtual ix, [k, mid, _, _, p1, p2, p3, p4] => match mtl[mid]? with
    | some mi => [(p1, if k = 13 then .methodLinkNest own ix mi.1 "CliffWater" else .methodLink own ix mi.1), (p2, .instanceMethod mi.1), (p3, .selects mi.1.cls mi.1 mi.1), (p4, .initialized mi.1.cls)]
    | none => [(0, .initialized "")]
  | _, _ => []
/-- what else must be so of an instruction -/
def xd (own nm : String) (q : Nat × En) : Bool := match q.2.1, q.2.2.2.1 with
  | .getfield _, au => match au with
    | [ci, k, _] => match zcl[ci]? with
      | some (_, _, N) => decide (k < N)
      | none => decide (ci = 40 ∧ k < 2)
    | _ => false
  | .putfield _, au => match au with
    | [ci, k, _] => match zcl[ci]? with
      | some (C, T, N) => decide (k < N) && (!(T k).2.2.2 || (decide (nm = "<init>") && decide ((T k).1 = own)))
      | none => false
    | _ => false
  | .getstatic _, au => match au with
    | [z, n, _] => decide (z < 4 ∧ (n = 1 ↔ z < 2))
    | _ => false
  | .ldc ix, au => match au with
    | [0, _] => true
    | [1, j, _] => decide (own = "CliffWater$Tokens" ∧ j < 12 ∧ ix = 17 + 2 * j)
    | _ => false
  | .ldc_w _, au => decide (au.length = 1)
  | .ldc2_w _, au => decide (au.length = 1)
  | .new _, au => match au with
    | [ci, n, _, _, _] => match zcl[ci]? with
      | some (_, _, N) => decide (n = N)
      | none => false
    | _ => false
  | .newarray _, au => decide (au.length = 1)
  | .anewarray _, au => decide (au.length = 2)
  | .multianewarray _ d, au => decide (au.length = 3 ∧ d = 2)
  | .aastore, au => decide (au = [8])
  | .invokespecial _, au => match au with
    | [0, _, _, _] => true
    | [k, mid, n, _, _, _, _] => match mtl[mid]? with
      | some mi => decide (mid < 240 ∧ (k = 12 ∨ k = 15) ∧ mi.1.name = "<init>" ∧ (parseMethodDescriptor mi.1.desc).map (fun d => d.parameters.length + 1) = some n ∧ mi.2.2.2.1 = none)
      | none => false
    | _ => false
  | .invokestatic _, au => match au with
    | [k, _, _, _, _] => decide (k < 4)
    | [k, mid, n, _, _, _, _] => match mtl[mid]? with
      | some mi => decide (mid < 240 ∧ (k = 11 ∨ k = 14) ∧ (parseMethodDescriptor mi.1.desc).map (fun d => d.parameters.length) = some n)
      | none => false
    | _ => decide (au = [99])
  | .invokevirtual _, au => match au with
    | [k, mid, n, rc, _, _, _, _] => match mtl[mid]? with
      | some mi => decide (mid < 240 ∧ (k = 10 ∨ k = 13) ∧ (if rc = 40 then some "java/lang/String" else (zcl[rc]?).map (·.1)) = some mi.1.cls ∧ (parseMethodDescriptor mi.1.desc).map (fun d => d.parameters.length + 1) = some n)
      | none => false
    | _ => false
  | _, _ => true
def isNst (w : Jvm.Cond) : Bool := match w with
  | .methodLinkNest _ _ _ _ => true
  | .fieldLinkNest _ _ _ _ _ _ => true
  | .arrayOver _ => true
  | _ => false
def lnO (i : Instr) : Nat := match i with
  | .bipush _ => 2
  | .sipush _ => 3
  | .ldc _ => 2
  | .ldc_w _ => 3
  | .ldc2_w _ => 3
  | .iload _ => 2
  | .lload _ => 2
  | .aload _ => 2
  | .istore _ => 2
  | .lstore _ => 2
  | .astore _ => 2
  | .iinc _ _ => 3
  | .goto _ => 3
  | .if_icmp _ _ => 3
  | .ifCond _ _ => 3
  | .ifnonnull _ => 3
  | .tableswitch _ _ _ _ => 0
  | .lookupswitch _ _ => 0
  | .getfield _ => 3
  | .putfield _ => 3
  | .getstatic _ => 3
  | .newarray _ => 2
  | .anewarray _ => 3
  | .multianewarray _ _ => 4
  | .new _ => 3
  | .invokespecial _ => 3
  | .invokestatic _ => 3
  | .invokevirtual _ => 3
  | _ => 1
def okE (own nm : String) (b : ByteArray) (q : Nat × En) : Bool := decide (decode b q.1 = .ok (q.2.1, q.2.2.1)) && (decide (lnO q.2.1 = 0 ∨ lnO q.2.1 = q.2.2.1) && (xd own nm q && (nd own q).all (fun w => decide (lw_tbl[w.1]? = some w.2) && (goodWord w.2 || isNst w.2))))
def okM (p : Nat) (mi : Mi) : Prop := (∀ q ∈ mi.2.2.2.2, okE mi.1.cls mi.1.name mi.2.1 q = true) ∧ plainName mi.1.cls = true ∧ (mi.1.cls ≠ "java/lang/invoke/MethodHandle" ∧ mi.1.cls ≠ "java/lang/invoke/VarHandle") ∧ mi.2.2.1 ≤ 20 ∧ goodWord (.code mi.1 mi.2.1 mi.2.2.1 mi.2.2.2.1) = true ∧ (p ≠ 0 → lw_tbl[p]? = some (.code mi.1 mi.2.1 mi.2.2.1 mi.2.2.2.1))
theorem okM_of {p : Nat} {mi : Mi} (h : mi.2.2.2.2.all (okE mi.1.cls mi.1.name mi.2.1) = true) (h2 : plainName mi.1.cls = true) (h3 : mi.1.cls ≠ "java/lang/invoke/MethodHandle" ∧ mi.1.cls ≠ "java/lang/invoke/VarHandle") (h4 : mi.2.2.1 ≤ 20) (h5 : goodWord (.code mi.1 mi.2.1 mi.2.2.1 mi.2.2.2.1) = true) (h6 : p ≠ 0 → lw_tbl[p]? = some (.code mi.1 mi.2.1 mi.2.2.1 mi.2.2.2.1)) : okM p mi := ⟨List.all_eq_true.mp h, h2, h3, h4, h5, h6⟩
theorem all_cut {α : Type} (f : α → Bool) (l : List α) (n : Nat) (h1 : (l.take n).all f = true) (h2 : (l.drop n).all f = true) : l.all f = true := by
  rw [← List.take_append_drop n l, List.all_append, h1, h2]; rfl

set_option maxRecDepth 100000 in
theorem okm_0 : okM 351 mi_0 := okM_of (by decide +kernel) (by decide +kernel) ⟨by decide +kernel, by decide +kernel⟩ (by decide +kernel) (by decide +kernel) (by decide +kernel)
set_option maxRecDepth 100000 in
theorem okm_1 : okM 1106 mi_1 := okM_of (by decide +kernel) (by decide +kernel) ⟨by decide +kernel, by decide +kernel⟩ (by decide +kernel) (by decide +kernel) (by decide +kernel)
set_option maxRecDepth 100000 in
theorem okm_2 : okM 1122 mi_2 := okM_of (by decide +kernel) (by decide +kernel) ⟨by decide +kernel, by decide +kernel⟩ (by decide +kernel) (by decide +kernel) (by decide +kernel)
set_option maxRecDepth 100000 in
theorem okm_3 : okM 1118 mi_3 := okM_of (by decide +kernel) (by decide +kernel) ⟨by decide +kernel, by decide +kernel⟩ (by decide +kernel) (by decide +kernel) (by decide +kernel)
set_option maxRecDepth 100000 in
theorem okm_4 : okM 1130 mi_4 := okM_of (by decide +kernel) (by decide +kernel) ⟨by decide +kernel, by decide +kernel⟩ (by decide +kernel) (by decide +kernel) (by decide +kernel)
set_option maxRecDepth 100000 in
theorem okm_5 : okM 1135 mi_5 := okM_of (by decide +kernel) (by decide +kernel) ⟨by decide +kernel, by decide +kernel⟩ (by decide +kernel) (by decide +kernel) (by decide +kernel)
set_option maxRecDepth 100000 in
theorem okm_6 : okM 1143 mi_6 := okM_of (by decide +kernel) (by decide +kernel) ⟨by decide +kernel, by decide +kernel⟩ (by decide +kernel) (by decide +kernel) (by decide +kernel)
set_option maxRecDepth 100000 in
theorem okm_7 : okM 1152 mi_7 := okM_of (by decide +kernel) (by decide +kernel) ⟨by decide +kernel, by decide +kernel⟩ (by decide +kernel) (by decide +kernel) (by decide +kernel)
set_option maxRecDepth 100000 in
theorem okm_8 : okM 1114 mi_8 := okM_of (by decide +kernel) (by decide +kernel) ⟨by decide +kernel, by decide +kernel⟩ (by decide +kernel) (by decide +kernel) (by decide +kernel)
set_option maxRecDepth 100000 in
theorem okm_9 : okM 1126 mi_9 := okM_of (by decide +kernel) (by decide +kernel) ⟨by decide +kernel, by decide +kernel⟩ (by decide +kernel) (by decide +kernel) (by decide +kernel)
set_option maxRecDepth 100000 in
theorem okm_10 : okM 1139 mi_10 := okM_of (by decide +kernel) (by decide +kernel) ⟨by decide +kernel, by decide +kernel⟩ (by decide +kernel) (by decide +kernel) (by decide +kernel)
set_option maxRecDepth 100000 in
theorem okm_11 : okM 1156 mi_11 := okM_of (by decide +kernel) (by decide +kernel) ⟨by decide +kernel, by decide +kernel⟩ (by decide +kernel) (by decide +kernel) (by decide +kernel)
set_option maxRecDepth 100000 in
theorem okm_12 : okM 1148 mi_12 := okM_of (by decide +kernel) (by decide +kernel) ⟨by decide +kernel, by decide +kernel⟩ (by decide +kernel) (by decide +kernel) (by decide +kernel)
set_option maxRecDepth 100000 in
theorem okm_13 : okM 1201 mi_13 := okM_of (by decide +kernel) (by decide +kernel) ⟨by decide +kernel, by decide +kernel⟩ (by decide +kernel) (by decide +kernel) (by decide +kernel)
set_option maxRecDepth 100000 in
theorem okm_14 : okM 270 mi_14 := okM_of (by decide +kernel) (by decide +kernel) ⟨by decide +kernel, by decide +kernel⟩ (by decide +kernel) (by decide +kernel) (by decide +kernel)
set_option maxRecDepth 100000 in
theorem okm_15 : okM 805 mi_15 := okM_of (by decide +kernel) (by decide +kernel) ⟨by decide +kernel, by decide +kernel⟩ (by decide +kernel) (by decide +kernel) (by decide +kernel)
set_option maxRecDepth 100000 in
theorem okm_16 : okM 809 mi_16 := okM_of (by decide +kernel) (by decide +kernel) ⟨by decide +kernel, by decide +kernel⟩ (by decide +kernel) (by decide +kernel) (by decide +kernel)
set_option maxRecDepth 100000 in
theorem okm_17 : okM 1168 mi_17 := okM_of (by decide +kernel) (by decide +kernel) ⟨by decide +kernel, by decide +kernel⟩ (by decide +kernel) (by decide +kernel) (by decide +kernel)
set_option maxRecDepth 100000 in
theorem okm_18 : okM 1194 mi_18 := okM_of (by decide +kernel) (by decide +kernel) ⟨by decide +kernel, by decide +kernel⟩ (by decide +kernel) (by decide +kernel) (by decide +kernel)
set_option maxRecDepth 100000 in
theorem okm_19 : okM 276 mi_19 := okM_of (by decide +kernel) (by decide +kernel) ⟨by decide +kernel, by decide +kernel⟩ (by decide +kernel) (by decide +kernel) (by decide +kernel)
set_option maxRecDepth 100000 in
theorem okm_20 : okM 970 mi_20 := okM_of (by decide +kernel) (by decide +kernel) ⟨by decide +kernel, by decide +kernel⟩ (by decide +kernel) (by decide +kernel) (by decide +kernel)
set_option maxRecDepth 100000 in
theorem okm_21 : okM 126 mi_21 := okM_of (by decide +kernel) (by decide +kernel) ⟨by decide +kernel, by decide +kernel⟩ (by decide +kernel) (by decide +kernel) (by decide +kernel)
set_option maxRecDepth 100000 in
theorem okm_22 : okM 571 mi_22 := okM_of (by decide +kernel) (by decide +kernel) ⟨by decide +kernel, by decide +kernel⟩ (by decide +kernel) (by decide +kernel) (by decide +kernel)
set_option maxRecDepth 100000 in
theorem okm_23 : okM 590 mi_23 := okM_of (by decide +kernel) (by decide +kernel) ⟨by decide +kernel, by decide +kernel⟩ (by decide +kernel) (by decide +kernel) (by decide +kernel)
set_option maxRecDepth 100000 in
theorem okm_24 : okM 604 mi_24 := okM_of (by decide +kernel) (by decide +kernel) ⟨by decide +kernel, by decide +kernel⟩ (by decide +kernel) (by decide +kernel) (by decide +kernel)
set_option maxRecDepth 100000 in
theorem okm_25 : okM 594 mi_25 := okM_of (by decide +kernel) (by decide +kernel) ⟨by decide +kernel, by decide +kernel⟩ (by decide +kernel) (by decide +kernel) (by decide +kernel)
set_option maxRecDepth 100000 in
theorem okm_26 : okM 1053 mi_26 := okM_of (by decide +kernel) (by decide +kernel) ⟨by decide +kernel, by decide +kernel⟩ (by decide +kernel) (by decide +kernel) (by decide +kernel)
set_option maxRecDepth 100000 in
theorem okm_27 : okM 582 mi_27 := okM_of (by decide +kernel) (by decide +kernel) ⟨by decide +kernel, by decide +kernel⟩ (by decide +kernel) (by decide +kernel) (by decide +kernel)
set_option maxRecDepth 100000 in
theorem okm_28 : okM 600 mi_28 := okM_of (by decide +kernel) (by decide +kernel) ⟨by decide +kernel, by decide +kernel⟩ (by decide +kernel) (by decide +kernel) (by decide +kernel)
set_option maxRecDepth 100000 in
theorem okm_29 : okM 620 mi_29 := okM_of (by decide +kernel) (by decide +kernel) ⟨by decide +kernel, by decide +kernel⟩ (by decide +kernel) (by decide +kernel) (by decide +kernel)
set_option maxRecDepth 100000 in
theorem okm_30 : okM 743 mi_30 := okM_of (by decide +kernel) (by decide +kernel) ⟨by decide +kernel, by decide +kernel⟩ (by decide +kernel) (by decide +kernel) (by decide +kernel)
set_option maxRecDepth 100000 in
theorem okm_31 : okM 739 mi_31 := okM_of (by decide +kernel) (by decide +kernel) ⟨by decide +kernel, by decide +kernel⟩ (by decide +kernel) (by decide +kernel) (by decide +kernel)
set_option maxRecDepth 100000 in
theorem okm_32 : okM 1164 mi_32 := okM_of (by decide +kernel) (by decide +kernel) ⟨by decide +kernel, by decide +kernel⟩ (by decide +kernel) (by decide +kernel) (by decide +kernel)
set_option maxRecDepth 100000 in
theorem okm_33 : okM 616 mi_33 := okM_of (by decide +kernel) (by decide +kernel) ⟨by decide +kernel, by decide +kernel⟩ (by decide +kernel) (by decide +kernel) (by decide +kernel)
set_option maxRecDepth 100000 in
theorem okm_34 : okM 691 mi_34 := okM_of (by decide +kernel) (by decide +kernel) ⟨by decide +kernel, by decide +kernel⟩ (by decide +kernel) (by decide +kernel) (by decide +kernel)
set_option maxRecDepth 100000 in
theorem okm_35 : okM 695 mi_35 := okM_of (all_cut _ (mi_35.2.2.2.2) 60 (by decide +kernel) (by decide +kernel)) (by decide +kernel) ⟨by decide +kernel, by decide +kernel⟩ (by decide +kernel) (by decide +kernel) (by decide +kernel)
set_option maxRecDepth 100000 in
theorem okm_36 : okM 706 mi_36 := okM_of (by decide +kernel) (by decide +kernel) ⟨by decide +kernel, by decide +kernel⟩ (by decide +kernel) (by decide +kernel) (by decide +kernel)
set_option maxRecDepth 100000 in
theorem okm_37 : okM 722 mi_37 := okM_of (by decide +kernel) (by decide +kernel) ⟨by decide +kernel, by decide +kernel⟩ (by decide +kernel) (by decide +kernel) (by decide +kernel)
set_option maxRecDepth 100000 in
theorem okm_38 : okM 699 mi_38 := okM_of (by decide +kernel) (by decide +kernel) ⟨by decide +kernel, by decide +kernel⟩ (by decide +kernel) (by decide +kernel) (by decide +kernel)
set_option maxRecDepth 100000 in
theorem okm_39 : okM 713 mi_39 := okM_of (by decide +kernel) (by decide +kernel) ⟨by decide +kernel, by decide +kernel⟩ (by decide +kernel) (by decide +kernel) (by decide +kernel)
set_option maxRecDepth 100000 in
theorem okm_40 : okM 718 mi_40 := okM_of (by decide +kernel) (by decide +kernel) ⟨by decide +kernel, by decide +kernel⟩ (by decide +kernel) (by decide +kernel) (by decide +kernel)
set_option maxRecDepth 100000 in
theorem okm_41 : okM 702 mi_41 := okM_of (by decide +kernel) (by decide +kernel) ⟨by decide +kernel, by decide +kernel⟩ (by decide +kernel) (by decide +kernel) (by decide +kernel)
set_option maxRecDepth 100000 in
theorem okm_42 : okM 1180 mi_42 := okM_of (all_cut _ (mi_42.2.2.2.2) 60 (by decide +kernel) (by decide +kernel)) (by decide +kernel) ⟨by decide +kernel, by decide +kernel⟩ (by decide +kernel) (by decide +kernel) (by decide +kernel)
set_option maxRecDepth 100000 in
theorem okm_43 : okM 414 mi_43 := okM_of (by decide +kernel) (by decide +kernel) ⟨by decide +kernel, by decide +kernel⟩ (by decide +kernel) (by decide +kernel) (by decide +kernel)
set_option maxRecDepth 100000 in
theorem okm_44 : okM 821 mi_44 := okM_of (by decide +kernel) (by decide +kernel) ⟨by decide +kernel, by decide +kernel⟩ (by decide +kernel) (by decide +kernel) (by decide +kernel)
set_option maxRecDepth 100000 in
theorem okm_45 : okM 826 mi_45 := okM_of (by decide +kernel) (by decide +kernel) ⟨by decide +kernel, by decide +kernel⟩ (by decide +kernel) (by decide +kernel) (by decide +kernel)
set_option maxRecDepth 100000 in
theorem okm_46 : okM 836 mi_46 := okM_of (by decide +kernel) (by decide +kernel) ⟨by decide +kernel, by decide +kernel⟩ (by decide +kernel) (by decide +kernel) (by decide +kernel)
set_option maxRecDepth 100000 in
theorem okm_47 : okM 912 mi_47 := okM_of (by decide +kernel) (by decide +kernel) ⟨by decide +kernel, by decide +kernel⟩ (by decide +kernel) (by decide +kernel) (by decide +kernel)
set_option maxRecDepth 100000 in
theorem okm_48 : okM 919 mi_48 := okM_of (by decide +kernel) (by decide +kernel) ⟨by decide +kernel, by decide +kernel⟩ (by decide +kernel) (by decide +kernel) (by decide +kernel)
set_option maxRecDepth 100000 in
theorem okm_49 : okM 923 mi_49 := okM_of (by decide +kernel) (by decide +kernel) ⟨by decide +kernel, by decide +kernel⟩ (by decide +kernel) (by decide +kernel) (by decide +kernel)
set_option maxRecDepth 100000 in
theorem okm_50 : okM 936 mi_50 := okM_of (by decide +kernel) (by decide +kernel) ⟨by decide +kernel, by decide +kernel⟩ (by decide +kernel) (by decide +kernel) (by decide +kernel)
set_option maxRecDepth 100000 in
theorem okm_51 : okM 940 mi_51 := okM_of (by decide +kernel) (by decide +kernel) ⟨by decide +kernel, by decide +kernel⟩ (by decide +kernel) (by decide +kernel) (by decide +kernel)
set_option maxRecDepth 100000 in
theorem okm_52 : okM 951 mi_52 := okM_of (by decide +kernel) (by decide +kernel) ⟨by decide +kernel, by decide +kernel⟩ (by decide +kernel) (by decide +kernel) (by decide +kernel)
set_option maxRecDepth 100000 in
theorem okm_53 : okM 958 mi_53 := okM_of (by decide +kernel) (by decide +kernel) ⟨by decide +kernel, by decide +kernel⟩ (by decide +kernel) (by decide +kernel) (by decide +kernel)
set_option maxRecDepth 100000 in
theorem okm_54 : okM 962 mi_54 := okM_of (by decide +kernel) (by decide +kernel) ⟨by decide +kernel, by decide +kernel⟩ (by decide +kernel) (by decide +kernel) (by decide +kernel)
set_option maxRecDepth 100000 in
theorem okm_55 : okM 931 mi_55 := okM_of (by decide +kernel) (by decide +kernel) ⟨by decide +kernel, by decide +kernel⟩ (by decide +kernel) (by decide +kernel) (by decide +kernel)
set_option maxRecDepth 100000 in
theorem okm_56 : okM 966 mi_56 := okM_of (by decide +kernel) (by decide +kernel) ⟨by decide +kernel, by decide +kernel⟩ (by decide +kernel) (by decide +kernel) (by decide +kernel)
set_option maxRecDepth 100000 in
theorem okm_57 : okM 947 mi_57 := okM_of (by decide +kernel) (by decide +kernel) ⟨by decide +kernel, by decide +kernel⟩ (by decide +kernel) (by decide +kernel) (by decide +kernel)
set_option maxRecDepth 100000 in
theorem okm_58 : okM 927 mi_58 := okM_of (by decide +kernel) (by decide +kernel) ⟨by decide +kernel, by decide +kernel⟩ (by decide +kernel) (by decide +kernel) (by decide +kernel)
set_option maxRecDepth 100000 in
theorem okm_59 : okM 459 mi_59 := okM_of (by decide +kernel) (by decide +kernel) ⟨by decide +kernel, by decide +kernel⟩ (by decide +kernel) (by decide +kernel) (by decide +kernel)
set_option maxRecDepth 100000 in
theorem okm_60 : okM 787 mi_60 := okM_of (by decide +kernel) (by decide +kernel) ⟨by decide +kernel, by decide +kernel⟩ (by decide +kernel) (by decide +kernel) (by decide +kernel)
set_option maxRecDepth 100000 in
theorem okm_61 : okM 796 mi_61 := okM_of (by decide +kernel) (by decide +kernel) ⟨by decide +kernel, by decide +kernel⟩ (by decide +kernel) (by decide +kernel) (by decide +kernel)
set_option maxRecDepth 100000 in
theorem okm_62 : okM 996 mi_62 := okM_of (by decide +kernel) (by decide +kernel) ⟨by decide +kernel, by decide +kernel⟩ (by decide +kernel) (by decide +kernel) (by decide +kernel)
set_option maxRecDepth 100000 in
theorem okm_63 : okM 1001 mi_63 := okM_of (by decide +kernel) (by decide +kernel) ⟨by decide +kernel, by decide +kernel⟩ (by decide +kernel) (by decide +kernel) (by decide +kernel)
set_option maxRecDepth 100000 in
theorem okm_64 : okM 1008 mi_64 := okM_of (by decide +kernel) (by decide +kernel) ⟨by decide +kernel, by decide +kernel⟩ (by decide +kernel) (by decide +kernel) (by decide +kernel)
set_option maxRecDepth 100000 in
theorem okm_65 : okM 1012 mi_65 := okM_of (by decide +kernel) (by decide +kernel) ⟨by decide +kernel, by decide +kernel⟩ (by decide +kernel) (by decide +kernel) (by decide +kernel)
set_option maxRecDepth 100000 in
theorem okm_66 : okM 1016 mi_66 := okM_of (by decide +kernel) (by decide +kernel) ⟨by decide +kernel, by decide +kernel⟩ (by decide +kernel) (by decide +kernel) (by decide +kernel)
set_option maxRecDepth 100000 in
theorem okm_67 : okM 1020 mi_67 := okM_of (by decide +kernel) (by decide +kernel) ⟨by decide +kernel, by decide +kernel⟩ (by decide +kernel) (by decide +kernel) (by decide +kernel)
set_option maxRecDepth 100000 in
theorem okm_68 : okM 1027 mi_68 := okM_of (by decide +kernel) (by decide +kernel) ⟨by decide +kernel, by decide +kernel⟩ (by decide +kernel) (by decide +kernel) (by decide +kernel)
set_option maxRecDepth 100000 in
theorem okm_69 : okM 1035 mi_69 := okM_of (all_cut _ (mi_69.2.2.2.2) 60 (by decide +kernel) (by decide +kernel)) (by decide +kernel) ⟨by decide +kernel, by decide +kernel⟩ (by decide +kernel) (by decide +kernel) (by decide +kernel)
set_option maxRecDepth 100000 in
theorem okm_70 : okM 216 mi_70 := okM_of (by decide +kernel) (by decide +kernel) ⟨by decide +kernel, by decide +kernel⟩ (by decide +kernel) (by decide +kernel) (by decide +kernel)
set_option maxRecDepth 100000 in
theorem okm_71 : okM 762 mi_71 := okM_of (by decide +kernel) (by decide +kernel) ⟨by decide +kernel, by decide +kernel⟩ (by decide +kernel) (by decide +kernel) (by decide +kernel)
set_option maxRecDepth 100000 in
theorem okm_72 : okM 758 mi_72 := okM_of (by decide +kernel) (by decide +kernel) ⟨by decide +kernel, by decide +kernel⟩ (by decide +kernel) (by decide +kernel) (by decide +kernel)
set_option maxRecDepth 100000 in
theorem okm_73 : okM 672 mi_73 := okM_of (by decide +kernel) (by decide +kernel) ⟨by decide +kernel, by decide +kernel⟩ (by decide +kernel) (by decide +kernel) (by decide +kernel)
