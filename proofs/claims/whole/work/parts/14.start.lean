/-! The start: what the Statement gives is what the small machine's start asks -/
theorem zinst {ci : Nat} {q : vw_C} (h : zcl[ci]? = some q) : ∃ n, Jvm.Cond.instantiable q.1 n ∈ lw_tbl := by
  match ci, h with
  | 0, h => cases h; exact ⟨5, List.mem_of_getElem? (i := 348) (by decide +kernel)⟩
  | 1, h => cases h; exact ⟨6, List.mem_of_getElem? (i := 267) (by decide +kernel)⟩
  | 2, h => cases h; exact ⟨8, List.mem_of_getElem? (i := 273) (by decide +kernel)⟩
  | 3, h => cases h; exact ⟨18, List.mem_of_getElem? (i := 123) (by decide +kernel)⟩
  | 4, h => cases h; exact ⟨11, List.mem_of_getElem? (i := 411) (by decide +kernel)⟩
  | 5, h => cases h; exact ⟨8, List.mem_of_getElem? (i := 456) (by decide +kernel)⟩
  | 6, h => cases h; exact ⟨10, List.mem_of_getElem? (i := 213) (by decide +kernel)⟩
  | 7, h => cases h; exact ⟨7, List.mem_of_getElem? (i := 109) (by decide +kernel)⟩
  | 8, h => cases h; exact ⟨4, List.mem_of_getElem? (i := 117) (by decide +kernel)⟩
  | 9, h => cases h; exact ⟨14, List.mem_of_getElem? (i := 493) (by decide +kernel)⟩
  | 10, h => cases h; exact ⟨4, List.mem_of_getElem? (i := 392) (by decide +kernel)⟩
  | 11, h => cases h; exact ⟨7, List.mem_of_getElem? (i := 109) (by decide +kernel)⟩
  | 12, h => cases h; exact ⟨33, List.mem_of_getElem? (i := 1208) (by decide +kernel)⟩
  | n + 13, h => simp [zcl] at h
theorem over_arr {s : State} (h : (Jvm.Cond.arrayOver (.array .int)).before #[] s = true) : ∃ comp c k, s.vm.findClass (FieldType.array .int).toString = some comp ∧ s.vm.classes[c]? = some k ∧ k.kind = .array comp (.array .int) ∧ s.vm.findClass ("[" ++ (FieldType.array .int).toString) = some c := by
  simp only [Cond.before, Cond.holds, Cond.value, beq_iff_eq] at h
  cases hc : s.vm.findClass (FieldType.array .int).toString with
  | none => simp [hc] at h
  | some comp =>
    rw [hc, Option.bind_some] at h
    obtain ⟨c, hi, h2⟩ := Option.bind_eq_some_iff.mp h
    obtain ⟨k, hk, h3⟩ := Option.map_eq_some_iff.mp h2
    obtain ⟨hlt, hp, -⟩ := Array.findIdx?_eq_some_iff_getElem.mp hi
    have hkc : s.vm.classes[c] = k := by rw [Array.getElem?_eq_getElem hlt] at hk; exact Option.some.inj hk
    rw [hkc] at hp
    cases hkk : k.kind with
    | array comp2 ty =>
      rw [hkk] at h3 hp
      simp only [Bool.and_eq_true, decide_eq_true_eq, beq_iff_eq] at h3 hp
      obtain ⟨rfl, h4⟩ := h3
      subst hp
      exact ⟨comp2, c, k, rfl, hk, hkk, h4⟩
    | _ => rw [hkk] at h3; cases h3
theorem start_good {p : Program} {s : State} {m : MethodId} {meth : Method} {c : Code} {b L : Nat} {xs : Nat → Int32} (C0 : lw_At p s m meth c b L xs) : ∃ (D : va_G) (E : Nat → Nat) (cA : Nat → ClassId) (fl : Bool), Good D s.heap.size E cA (L, xs, fl) s ∧ E 1000 = b := by
  obtain ⟨hx, hb, hr, hml, hown, hts, hX, hbl, hlocks, hgv⟩ := C0
  have hs := flat_of_before _ hgv
  have hA : ∀ a : Nat, a < s.heap.size → ¬ (fun q : Nat => s.heap.size ≤ q) a := fun a h => Nat.not_le.mpr h
  have key : ∀ ci : Nat, ∃ y : ClassId × (Nat → Nat), ∀ q : vw_C, zcl[ci]? = some q → u_Kn s q.1 q.2.1 q.2.2 y.1 y.2 := by
    intro ci
    cases h : zcl[ci]? with
    | none => exact ⟨(0, fun _ => 0), fun q hq => by cases hq⟩
    | some q =>
      obtain ⟨n, hn⟩ := zinst h
      obtain ⟨cC, iS, hK⟩ := u_known (C := q.1) (T := q.2.1) (N := q.2.2) (n := n) hts (fun w hw => ((zok_all h).1 w hw).1) (hts _ hn)
      exact ⟨(cC, iS), fun q' hq' => by cases hq'; exact hK⟩
  obtain ⟨F, hF⟩ := Classical.axiomOfChoice key
  have arr : ∀ ty : FieldType, (Jvm.Cond.arrayClass ty).before #[Value.ref b] s = true → ∃ cA, s.vm.findClass ("[" ++ ty.toString) = some cA ∧ ArrOfT s cA ty := by
    intro ty h
    obtain ⟨cA, k, comp, h1, h2, h3⟩ := Cond.arrayClass_spec h
    exact ⟨cA, h1, fun n z => ⟨fun k h => (by cases h), k, h2, comp, h3⟩⟩
  obtain ⟨c0, a0, a0'⟩ := arr .int (hts _ (List.mem_of_getElem? (i := 210) (by decide +kernel)))
  obtain ⟨c1, a1, a1'⟩ := arr .byte (hts _ (List.mem_of_getElem? (i := 265) (by decide +kernel)))
  obtain ⟨c2, a2, a2'⟩ := arr .boolean (hts _ (List.mem_of_getElem? (i := 211) (by decide +kernel)))
  obtain ⟨comp3, c3, k3, b1, b2, b3, b4, b5⟩ := Cond.arrayOver_spec (n := "CliffWater$Told") (args := #[Value.ref b]) (first := s) (s := s) (o := none) (idx := []) (hts (.arrayOver (.object "CliffWater$Told")) (List.mem_of_getElem? (i := 390) (by decide +kernel)))
  obtain ⟨comp4, c4, k4, d1, d2, d3, d4⟩ := over_arr (hts (.arrayOver (.array .int)) (List.mem_of_getElem? (i := 129) (by decide +kernel)))
  obtain ⟨t1, e1, T1⟩ := va_Tof (tm := .static "CliffWater" "SMALLEST" "[I") (ty := .int) (N := 5) (f := fun j => .int (consts1.getD j 0)) (A := fun q : Nat => s.heap.size ≤ q) (by decide) (hs _ (by decide +kernel)) (va_eqt (hs (.eq (.length (.static "CliffWater" "SMALLEST" "[I")) (.int (Int32.ofNat 5))) (by decide +kernel))) (fun j hj => va_eqt (hs _ ((by decide +kernel : ∀ j, j < 5 → (Jvm.Cond.eq (.elem (.static "CliffWater" "SMALLEST" "[I") (.int (Int32.ofNat j))) (.int (consts1.getD j 0))) ∈ flatC (Jvm.Cond.and given_1 narrow_1)) j hj))) hA
  obtain ⟨t2, e2, T2⟩ := va_Tof (tm := .static "CliffWater" "GREATEST" "[I") (ty := .int) (N := 5) (f := fun j => .int (consts2.getD j 0)) (A := fun q : Nat => s.heap.size ≤ q) (by decide) (hs _ (by decide +kernel)) (va_eqt (hs (.eq (.length (.static "CliffWater" "GREATEST" "[I")) (.int (Int32.ofNat 5))) (by decide +kernel))) (fun j hj => va_eqt (hs _ ((by decide +kernel : ∀ j, j < 5 → (Jvm.Cond.eq (.elem (.static "CliffWater" "GREATEST" "[I") (.int (Int32.ofNat j))) (.int (consts2.getD j 0))) ∈ flatC (Jvm.Cond.and given_1 narrow_1)) j hj))) hA
  have Z1 := va_Zof (C := "CliffWater") (n := "SMALLEST") (d := "[I") (hts _ (by decide +kernel)) (hts _ (by decide +kernel)) e1 hA
  have Z2 := va_Zof (C := "CliffWater") (n := "GREATEST") (d := "[I") (hts _ (by decide +kernel)) (hts _ (by decide +kernel)) e2 hA
  have Z3 := va_Zof (C := "java/lang/String") (n := "COMPACT_STRINGS") (d := "Z") (hts _ (by decide +kernel)) (hts _ (by decide +kernel)) (va_eqt (hs (.eq (.static "java/lang/String" "COMPACT_STRINGS" "Z") (.int 1)) (by decide +kernel))) hA
  obtain ⟨v4, e4, r4⟩ := Cond.isRef_spec (args := #[Value.ref b]) (first := s) (s := s) (o := none) (idx := []) (t := .static "jdk/internal/util/Preconditions" "SIOOBE_FORMATTER" "Ljava/util/function/BiFunction;") (hs _ (by decide +kernel))
  have Z4 := va_Zof (C := "jdk/internal/util/Preconditions") (n := "SIOOBE_FORMATTER") (d := "Ljava/util/function/BiFunction;") (hts _ (by decide +kernel)) (hts _ (by decide +kernel)) e4 hA
  obtain ⟨adK, adV, S5, t5⟩ := vk_Sof (args := #[Value.ref b]) (s := s) (N := 12) (tm := fun i => .string "CliffWater$Tokens" (17 + 2 * i)) (len := strs.map List.length) (byt := strs) (A := fun q : Nat => s.heap.size ≤ q) (by decide +kernel)
    (fun i hi => hs _ ((by decide +kernel : ∀ i, i < 12 → (Jvm.Cond.exactly (.string "CliffWater$Tokens" (17 + 2 * i)) "java/lang/String") ∈ flatC (Jvm.Cond.and given_1 narrow_1)) i hi))
    (fun i hi => hs _ ((by decide +kernel : ∀ i, i < 12 → (Jvm.Cond.eq (.field (.string "CliffWater$Tokens" (17 + 2 * i)) "java/lang/String" "coder" "B") (.int 0)) ∈ flatC (Jvm.Cond.and given_1 narrow_1)) i hi))
    (fun i hi => hs _ ((by decide +kernel : ∀ i, i < 12 → (Jvm.Cond.arrayOf (.field (.string "CliffWater$Tokens" (17 + 2 * i)) "java/lang/String" "value" "[B") .byte) ∈ flatC (Jvm.Cond.and given_1 narrow_1)) i hi))
    (fun i hi => hs _ ((by decide +kernel : ∀ i, i < 12 → (Jvm.Cond.eq (.length (.field (.string "CliffWater$Tokens" (17 + 2 * i)) "java/lang/String" "value" "[B")) (.int (Int32.ofNat ((strs.map List.length).getD i 0)))) ∈ flatC (Jvm.Cond.and given_1 narrow_1)) i hi))
    (fun i hi j hj => hs _ ((by decide +kernel : ∀ i, i < 12 → ∀ j, j < (strs.map List.length).getD i 0 → (Jvm.Cond.eq (.elem (.field (.string "CliffWater$Tokens" (17 + 2 * i)) "java/lang/String" "value" "[B") (.int (Int32.ofNat j))) (.int ((strs.getD i []).getD j 0))) ∈ flatC (Jvm.Cond.and given_1 narrow_1)) i hi j hj))
    (fun i j hi hj hij => by
      rcases (by decide +kernel : ∀ i, i < 12 → ∀ j, j < 12 → i ≠ j → (Jvm.Cond.not (.eq (.string "CliffWater$Tokens" (17 + 2 * i)) (.string "CliffWater$Tokens" (17 + 2 * j)))) ∈ flatC (Jvm.Cond.and given_1 narrow_1) ∨ (Jvm.Cond.not (.eq (.string "CliffWater$Tokens" (17 + 2 * j)) (.string "CliffWater$Tokens" (17 + 2 * i)))) ∈ flatC (Jvm.Cond.and given_1 narrow_1)) i hi j hj hij with h | h
      · exact Or.inl (hs _ h)
      · exact Or.inr (hs _ h)) hA
  obtain ⟨fl, a4, hv4⟩ : ∃ (fl : Bool) (a4 : Nat), v4 = (if fl then .null else .ref a4) := by
    cases v4 with
    | null => exact ⟨true, 0, rfl⟩
    | ref a => exact ⟨false, a, rfl⟩
    | _ => cases r4
  let E : Nat → Nat := fun q => if q = 1000 then b else if q = 1001 then t1 else if q = 1002 then t2 else if q = 1100 then a4 else if q < 1030 then adK (q - 1010) else adV (q - 1030)
  let cA : Nat → ClassId := fun t => if t = 0 then c0 else if t = 1 then c1 else if t = 2 then c2 else if t = 3 then c3 else c4
  have EK : ∀ i, i < 12 → E (1010 + i) = adK i := fun i hi => by
    show (if 1010 + i = 1000 then b else if 1010 + i = 1001 then t1 else if 1010 + i = 1002 then t2 else if 1010 + i = 1100 then a4 else if 1010 + i < 1030 then adK (1010 + i - 1010) else adV (1010 + i - 1030)) = adK i
    rw [if_neg (by omega), if_neg (by omega), if_neg (by omega), if_neg (by omega), if_pos (by omega), show 1010 + i - 1010 = i by omega]
  have EV : ∀ i, i < 12 → E (1030 + i) = adV i := fun i hi => by
    show (if 1030 + i = 1000 then b else if 1030 + i = 1001 then t1 else if 1030 + i = 1002 then t2 else if 1030 + i = 1100 then a4 else if 1030 + i < 1030 then adK (1030 + i - 1010) else adV (1030 + i - 1030)) = adV i
    rw [if_neg (by omega), if_neg (by omega), if_neg (by omega), if_neg (by omega), if_neg (by omega), show 1030 + i - 1030 = i by omega]
  refine ⟨(fun ci => (F ci).1, fun ci => (F ci).2), E, cA, fl, ⟨⟨fun ci q hq => hF ci q hq, ?_⟩, ?_, ⟨Nat.le_refl _, hbl⟩, hX, T1, T2, Z1, Z2, Z3, ?_, ?_, ?_⟩, rfl⟩
  · intro k q hq
    match k, hq with
    | 0, hq => cases hq; exact ⟨a0', a0⟩
    | 1, hq => cases hq; exact ⟨a1', a1⟩
    | 2, hq => cases hq; exact ⟨a2', a2⟩
    | 3, hq => cases hq; exact ⟨fun n z => ⟨fun k h => (by cases h), k3, b3, comp3, b4⟩, k3, comp3, b3, b4, b1, b5⟩
    | 4, hq => cases hq; exact ⟨fun n z => ⟨fun k h => (by cases h), k4, d2, comp4, d3⟩, d4⟩
    | k + 5, hq => simp [tyl] at hq
  · intro w hw hn
    have h := hts w hw
    match w, hn, h with
    | .methodLinkNest _ _ _ _, _, h => exact va_Nw.of rfl h
    | .fieldLinkNest _ _ _ _ _ _, _, h => exact va_Nw.of rfl h
    | .arrayOver _, _, h => exact h
  · rw [hv4] at Z4; exact Z4
  · refine ⟨fun i hi => ?_, fun i j hi hj e => S5.2 i j hi hj (((EK i hi).symm.trans e).trans (EK j hj))⟩
    have h := S5.1 i hi
    show va_O "java/lang/String" (E (1010 + i)) _ s s.heap ∧ va_OF "java/lang/String" "coder" "B" (.int 0) (E (1010 + i)) _ s s.heap ∧ va_OF "java/lang/String" "value" "[B" (.ref (E (1030 + i))) (E (1010 + i)) _ s s.heap ∧ va_T .byte (E (1030 + i)) _ _ _ s s.heap
    rw [EK i hi, EV i hi]
    exact h
  · intro j hj
    have hw : (Jvm.Cond.stringRef "CliffWater$Tokens" (17 + 2 * j) (txts.getD j "")).before #[Value.ref b] s = true := hts _ ((by decide +kernel : ∀ j, j < 12 → (Jvm.Cond.stringRef "CliffWater$Tokens" (17 + 2 * j) (txts.getD j "")) ∈ lw_tbl) j hj)
    rw [EK j hj]
    exact vk_R.of hw (t5 j hj)
def noput (q : Nat × En) : Bool := match q.2.1 with
  | .putfield _ => false
  | _ => true
theorem okE_nm {own nm nm' : String} {b : ByteArray} {q : Nat × En} (hq : noput q = true) (h : okE own nm b q = true) : okE own nm' b q = true := by
  obtain ⟨pc, ins, len, au, v⟩ := q
  have e : xd own nm' (pc, ins, len, au, v) = xd own nm (pc, ins, len, au, v) := by cases ins <;> first | rfl | cases hq
  unfold okE at h ⊢
  rw [e]; exact h
theorem law_noput : ∀ q ∈ k_240, noput q = true := by decide +kernel
def LawOk : Prop := ∀ X : Xx, X.1 ≤ 3584 → ∃ (n : Nat) (M : Mm), EvF zft X (EvM zft mtl X 50) (some .boolean) (lkp k_240) (some (.int 1), M) n 0 (initL [.ref 1000] 4) [] ([], fun _ _ => 0) ∧ M.1.length ≤ 600000 ∧ szs M ≤ 7302250
theorem whole_of (hMn : Mna) (hLaw : LawOk) {p : Program} {e : Env} {s : State} {m : MethodId} {below : List Frame} {meth : Method} {c : Code} (l : Launch) (hflags : l.flags = flags0) {b L : Nat} {xs : Nat → Int32} (hL : L ≤ 3584) (C0 : lw_At p s m meth c b L xs) : W p l e room_1 s m #[Value.ref b] below meth c s.heap [] 0 0 (lw_Z below #[Value.ref b] s) (entryFrame m ([Value.ref b] : List Value).toArray 4) := by
  obtain ⟨D, E, cA, fl, hG, hE⟩ := start_good C0
  obtain ⟨hx, hb, hr, hml, hown, hts, hX, hbl, hlocks, hgv⟩ := C0
  obtain ⟨n, M, hev, hm1, hm2⟩ := hLaw (L, xs, fl) hL
  have hmi : mtl[240]? = some mi_240 := rfl
  have ok := okm_at hmi
  have C : Ctx p room_1 s m #[Value.ref b] meth c code 4 "CliffWaterLaw" meth.name lw_tbl D s.heap.size E cA (L, xs, fl) := ⟨hx, hb, hml, hown, hts, fun w hw _ => hw, hG, rfl, by decide, by decide⟩
  have hz : zad s.heap.size E 1000 = b := by rw [zad, if_neg (by omega), hE]
  have hl := lok_init (f := zad s.heap.size E) (as := [.ref 1000]) (n := 4) (by decide)
  have e1 : ([.ref 1000] : List Value).map (rl (zad s.heap.size E)) = [.ref b] := by show [Value.ref (zad s.heap.size E 1000)] = _; rw [hz]
  rw [e1] at hl
  rw [lg_entry_eq]
  have hR : Rel D (zad s.heap.size E) s.heap.size cA ([], fun _ _ => 0) s.heap := ⟨fun k q h => by simp [wld] at h, rfl, ⟨by decide, fun _ _ _ => rfl, fun c n rs h => by simp at h, fun c n rs h => by simp at h⟩⟩
  have := bodyW (R := room_1) (l := l) (e := e) (below := below) (Q := lw_Z below #[Value.ref b] s) (o := (some (.int 1), M)) (d := 50) (cd := lkp k_240) (rt := some .boolean) hMn C ⟨by decide, by decide⟩ (Mcall_all l hMn 50) (fun pc en he => okE_nm (law_noput _ (lkp_mem _ _ _ he)) (ok.1 _ (lkp_mem _ _ _ he))) ?_ n 0 _ [] _ hev s.heap _ [] 0 0 hR hl va_S.rf (by show 0 + (M.1.length - 0) ≤ 600000; omega) (by show 0 + (szs M - 0) ≤ 7302250; omega)
  · exact this
  · intro pc en st M1 v H ls locs cells slots he hv ho hR1 hS1 hc1 hs1
    obtain ⟨ins, len, au, vv⟩ := en
    obtain ⟨hd, hln, -, -⟩ := okE_of (ok.1 _ (lkp_mem _ _ _ he))
    dsimp only at hv
    cases ho
    unfold retOf at hv
    split at hv
    · cases hv
    · rename_i ty y hrt
      split at hv
      · cases hv
        have hl1 := hln.resolve_left (show ¬ lnO .ireturn = 0 by decide)
        rw [← hl1] at hd
        exact W.widen hc1 hs1 (va_forget (fun q hq => hS1.2.2 q hq) (lw_ret hx hb hr hlocks hd))
      · cases hv
    · cases hv
    · cases hv
    · cases hv
