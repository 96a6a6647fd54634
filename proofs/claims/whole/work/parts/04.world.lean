/-! The small machine's memory as a world of cells; locals; what is known of the start -/
def zad (B : Nat) (E : Nat → Nat) (a : Nat) : Nat := if a < 1000 then B + a else E a
def rl (f : Nat → Nat) (v : Value) : Value := match v with
  | .ref a => .ref (f a)
  | v => v
theorem rl_cat (f : Nat → Nat) (v : Value) : (rl f v).category = v.category := by cases v <;> rfl
def ent (f : Nat → Nat) (cA : Nat → ClassId) (g : Sg) (i : Nat) (s : Shp) : va_E :=
  if 10 ≤ s.1 then .inr (s.1 - 10, (List.range s.2.1).map (fun k => if fty zft (s.1 - 10) k = 2 then rl f (rv s.2.2[k]?) else .int (g i k)))
  else if s.1 < 3 then .inl (cA s.1, s.2.1, .inl (g i))
  else .inl (cA s.1, s.2.1, .inr (.inr (.inr (.inr (fun j => (s.2.2[j]?).join.map f)))))
def wld (f : Nat → Nat) (B : Nat) (cA : Nat → ClassId) (M : Mm) : va_W := M.1.mapIdx (fun i s => (B + i, ent f cA M.2 i s))
theorem wld_get {f : Nat → Nat} {B : Nat} {cA : Nat → ClassId} {M : Mm} {c : Nat} {s : Shp} (h : M.1[c]? = some s) : (wld f B cA M)[c]? = some (B + c, ent f cA M.2 c s) := by
  unfold wld
  rw [List.getElem?_mapIdx, h]; rfl
theorem wld_len {f : Nat → Nat} {B : Nat} {cA : Nat → ClassId} {M : Mm} : (wld f B cA M).length = M.1.length := by unfold wld; exact List.length_mapIdx
theorem wld_inv {f : Nat → Nat} {B : Nat} {cA : Nat → ClassId} {M : Mm} {c : Nat} {q : Nat × va_E} (h : (wld f B cA M)[c]? = some q) : ∃ s, M.1[c]? = some s ∧ q = (B + c, ent f cA M.2 c s) := by
  unfold wld at h
  rw [List.getElem?_mapIdx] at h
  cases hs : M.1[c]? with
  | none => rw [hs] at h; cases h
  | some s => rw [hs] at h; cases h; exact ⟨s, rfl, rfl⟩
theorem wld_D {f : Nat → Nat} {B : Nat} {cA : Nat → ClassId} {M : Mm} : va_D (fun q => B ≤ q) (wld f B cA M) := by
  refine ⟨fun i j x y hi hj hxy => ?_, fun k q hk => ?_⟩
  · obtain ⟨_, _, rfl⟩ := wld_inv hi
    obtain ⟨_, _, rfl⟩ := wld_inv hj
    have : B + i = B + j := hxy
    omega
  · obtain ⟨_, _, rfl⟩ := wld_inv hk
    show B ≤ B + k
    omega
theorem wld_set {f : Nat → Nat} {B : Nat} {cA : Nat → ClassId} {M M' : Mm} {c : Nat} {e : va_E} {s : Shp} (hl : M'.1.length = M.1.length) (hc : M'.1[c]? = some s) (he : e = ent f cA M'.2 c s) (ho : ∀ j, j ≠ c → M'.1[j]? = M.1[j]? ∧ M'.2 j = M.2 j) : (wld f B cA M).set c (B + c, e) = wld f B cA M' := by
  apply List.ext_getElem?
  intro j
  by_cases h : j = c
  · subst h
    have hj : j < (wld f B cA M).length := by rw [wld_len, ← hl]; exact (List.getElem?_eq_some_iff.mp hc).1
    rw [List.getElem?_set_self hj, wld_get hc, he]
  · rw [List.getElem?_set_ne (Ne.symm h)]
    unfold wld
    rw [List.getElem?_mapIdx, List.getElem?_mapIdx, (ho j h).1]
    have := (ho j h).2
    cases M.1[j]? with
    | none => rfl
    | some t => simp [ent, this]
theorem wld_app {f : Nat → Nat} {B : Nat} {cA : Nat → ClassId} {M : Mm} {s : Shp} : wld f B cA (M.1 ++ [s], M.2) = wld f B cA M ++ [(B + M.1.length, ent f cA M.2 M.1.length s)] := by
  unfold wld
  simp [List.mapIdx_append]
def Wf (M : Mm) : Prop := M.1.length ≤ 1000 ∧ (∀ c, M.1.length ≤ c → ∀ i, M.2 c i = 0) ∧ (∀ c n rs, M.1[c]? = some (1, n, rs) → ∀ j, fits .byte (.int (M.2 c j)) = true) ∧ ∀ c n rs, M.1[c]? = some (2, n, rs) → ∀ j, fits .boolean (.int (M.2 c j)) = true
def Rel (D : va_G) (f : Nat → Nat) (B : Nat) (cA : Nat → ClassId) (M : Mm) (H : Heap) : Prop := va_P D zcl (wld f B cA M) H ∧ H.size = B + M.1.length ∧ Wf M
def szs (M : Mm) : Nat := (M.1.map (fun s => s.2.1)).sum
def tyl (cA : Nat → ClassId) : List (ClassId × FieldType) := [(cA 0, .int), (cA 1, .byte), (cA 2, .boolean), (cA 3, .object "CliffWater$Told"), (cA 4, .array .int)]
def txts : List String := ["if", "and", "not", "weight", "cut", "free", "dry", "hours", "night", "far", "holder", "owed"]
/-- what is known at a method's start, of the tables and of the cells below B -/
def Good (D : va_G) (B : Nat) (E : Nat → Nat) (cA : Nat → ClassId) (X : Xx) (U : State) : Prop :=
  va_K D zcl (tyl cA) U ∧ (∀ w ∈ lw_tbl, isNst w = true → w.before #[] U = true) ∧ (B ≤ U.heap.size ∧ E 1000 < B) ∧ va_X (E 1000) X.1 X.2.1 U U.heap ∧
  va_T .int (E 1001) 5 (fun j => .int (consts1.getD j 0)) (fun q => B ≤ q) U U.heap ∧ va_T .int (E 1002) 5 (fun j => .int (consts2.getD j 0)) (fun q => B ≤ q) U U.heap ∧
  va_Z "CliffWater" "SMALLEST" "[I" (.ref (E 1001)) (fun q => B ≤ q) U U.heap ∧ va_Z "CliffWater" "GREATEST" "[I" (.ref (E 1002)) (fun q => B ≤ q) U U.heap ∧
  va_Z "java/lang/String" "COMPACT_STRINGS" "Z" (.int 1) (fun q => B ≤ q) U U.heap ∧ va_Z "jdk/internal/util/Preconditions" "SIOOBE_FORMATTER" "Ljava/util/function/BiFunction;" (if X.2.2 then .null else .ref (E 1100)) (fun q => B ≤ q) U U.heap ∧
  vk_S 12 (strs.map List.length) strs (fun i => E (1010 + i)) (fun i => E (1030 + i)) (fun q => B ≤ q) U U.heap ∧ ∀ j, j < 12 → vk_R "CliffWater$Tokens" (17 + 2 * j) (txts.getD j "") (E (1010 + j)) U
theorem zidx {vm vm' : Vm} (h : vm.Alike vm') (f : Class → Bool) (hf : ∀ k : Class, f k.bare = f k) : vm'.classes.findIdx? f = vm.classes.findIdx? f := by
  have e : ∀ v : Vm, v.bare.classes.findIdx? f = v.classes.findIdx? f := fun v => by
    simp only [Vm.bare, Array.findIdx?_map]
    congr 1; funext k; exact hf k
  rw [← e vm', ← e vm, h.bare_eq]
theorem isNst_over {t : FieldType} {s U : State} (hW : s.WarmedH U.vm) (h : (Jvm.Cond.arrayOver t).before #[] s = true) : (Jvm.Cond.arrayOver t).before #[] U = true := by
  have hvm := hW.alike
  have e : (Jvm.Cond.arrayOver t).before #[] U = (Jvm.Cond.arrayOver t).before #[] s := by
    simp only [Cond.before, Cond.holds, Cond.value, hvm.findClass]
    congr 1
    congr 1
    funext comp
    rw [zidx hvm _ (fun k => rfl)]
    congr 1
    funext c
    exact hvm.class_map _ (fun k r _ _ => rfl) c
  rw [e]; exact h
theorem isNst_warm {s U : State} (hW : s.WarmedH U.vm) {w : Jvm.Cond} (hn : isNst w = true) (h : w.before #[] s = true) : w.before #[] U = true := by
  match w, hn with
  | .methodLinkNest _ _ _ _, _ => exact va_Nw.warmM hW h
  | .fieldLinkNest _ _ _ _ _ _, _ => exact va_Nw.warmF hW h
  | .arrayOver _, _ => exact isNst_over hW h
/-- a method's start as its caller has it: what is known goes over -/
theorem Good.go {D : va_G} {B : Nat} {E : Nat → Nat} {cA : Nat → ClassId} {X : Xx} {s U : State} (h : Good D B E cA X s) (hW : s.WarmedH U.vm) (hz : s.heap.size ≤ U.heap.size) (hq : ∀ a : Nat, a < s.heap.size → ¬ B ≤ a → U.heap[a]? = s.heap[a]?) : Good D B E cA X U := by
  obtain ⟨h1, h2, ⟨h3, h3'⟩, h4, h5, h6, h7, h8, h9, h10, h11, h12⟩ := h
  have hv := hW.alike
  refine ⟨va_K.moved hv h1, fun w hw hn => isNst_warm hW hn (h2 w hw hn), ⟨by omega, h3'⟩, (va_X.moved hv h4).kept (hq _ (by omega) (by omega)), (va_T.moved hv h5).kept hq, (va_T.moved hv h6).kept hq, (va_Z.moved hv h7).kept hq, (va_Z.moved hv h8).kept hq, (va_Z.moved hv h9).kept hq, (va_Z.moved hv h10).kept hq, (vk_S.moved hv h11).kept hq, fun j hj => vk_R.warm hW (h12 j hj)⟩
theorem Good.call {D : va_G} {B : Nat} {E : Nat → Nat} {cA : Nat → ClassId} {X : Xx} {U : State} (g : JFrame) (mk : MethodId) (a : Array Value) (h : Good D B E cA X U) : Good D B E cA X (U.calling g mk a) := by
  obtain ⟨h1, h2, h3, h4, h5, h6, h7, h8, h9, h10, h11, h12⟩ := h
  have hv : U.vm.Alike (U.calling g mk a).vm := Vm.Alike.refl U.vm
  refine ⟨va_K.moved (u := U) (U := U.calling g mk a) hv h1, fun w hw hn => ?_, h3, va_X.moved hv h4, va_T.moved hv h5, va_T.moved hv h6, va_Z.moved hv h7, va_Z.moved hv h8, va_Z.moved hv h9, va_Z.moved hv h10, vk_S.moved hv h11, fun j hj => vk_R.same rfl (h12 j hj)⟩
  match w, hn, h2 w hw hn with
  | .methodLinkNest _ _ _ _, _, h => exact va_Nw.same rfl rfl h
  | .fieldLinkNest _ _ _ _ _ _, _, h => exact va_Nw.same rfl rfl h
  | .arrayOver _, _, h => exact h
/-! locals -/
def lok (f : Nat → Nat) (ls : Array Slot) (nL : Nat) (L : Lc) : Prop := ls.size = nL ∧ lv_wf ls ∧ L.length = nL ∧ ∀ (i : Nat) (v : Value), L[i]? = some (some v) → ls[i]? = some (.val (rl f v))
def lvl (f : Nat → Nat) (L : Lc) : List (Nat × Value) := (List.range L.length).filterMap (fun i => match L[i]? with
  | some (some v) => some (i, rl f v)
  | _ => none)
theorem lvl_mem {f : Nat → Nat} {L : Lc} {i : Nat} {v : Value} (h : L[i]? = some (some v)) : (i, rl f v) ∈ lvl f L := by
  have hi : i < L.length := (List.getElem?_eq_some_iff.mp h).1
  exact List.mem_filterMap.mpr ⟨i, List.mem_range.mpr hi, by simp only [h]⟩
theorem lvl_inv {f : Nat → Nat} {L : Lc} {q : Nat × Value} (h : q ∈ lvl f L) : ∃ v, L[q.1]? = some (some v) ∧ q.2 = rl f v := by
  obtain ⟨i, -, hi⟩ := List.mem_filterMap.mp h
  cases hL : L[i]? with
  | none => rw [hL] at hi; cases hi
  | some o =>
    cases o with
    | none => rw [hL] at hi; cases hi
    | some v => rw [hL] at hi; cases hi; exact ⟨v, hL, rfl⟩
theorem lvl_has {f : Nat → Nat} {ls : Array Slot} {nL : Nat} {L : Lc} (h : lok f ls nL L) : lv_has ls nL (lvl f L) := by
  refine ⟨h.1, h.2.1, fun q hq => ?_⟩
  obtain ⟨v, h1, h2⟩ := lvl_inv hq
  rw [h2]
  exact h.2.2.2 _ _ h1
theorem lok_of {f : Nat → Nat} {ls : Array Slot} {nL : Nat} {L : Lc} {lv : List (Nat × Value)} (h : lv_has ls nL lv) (hl : L.length = nL) (hm : ∀ (i : Nat) (v : Value), L[i]? = some (some v) → (i, rl f v) ∈ lv) : lok f ls nL L := ⟨h.1, h.2.1, hl, fun i v hv => h.2.2 _ (hm i v hv)⟩
theorem lok_wk {f : Nat → Nat} {ls : Array Slot} {nL : Nat} {L L' : Lc} (hw : wk L' L) (h : lok f ls nL L) : lok f ls nL L' := ⟨h.1, h.2.1, hw.1.trans h.2.2.1, fun i v hv => h.2.2.2 i v (hw.2 i v hv)⟩
theorem clr_len (L : Lc) (i : Nat) : (clr L i).length = L.length := by
  unfold clr
  split
  · rfl
  · split
    · split
      · exact List.length_set
      · rfl
    · rfl
theorem clr_get {L : Lc} {i j : Nat} {w : Value} (h : (clr L i)[j]? = some (some w)) : L[j]? = some (some w) ∧ ¬ (j + 1 = i ∧ w.category = 2) := by
  unfold clr at h
  split at h
  · exact ⟨h, fun e => by omega⟩
  · rename_i k
    split at h
    · rename_i u hu
      split at h
      · by_cases e : j = k
        · subst e
          rw [List.getElem?_set_self (List.getElem?_eq_some_iff.mp hu).1] at h
          cases h
        · rw [List.getElem?_set_ne (Ne.symm e)] at h
          exact ⟨h, fun q => e (by omega)⟩
      · rename_i hc
        refine ⟨h, fun q => ?_⟩
        have e : j = k := by omega
        subst e
        rw [hu] at h
        cases h
        exact hc q.2
    · rename_i hu
      refine ⟨h, fun q => ?_⟩
      have e : j = k := by omega
      subst e
      exact hu w h
theorem lok_st1 {f : Nat → Nat} {ls : Array Slot} {nL i : Nat} {L : Lc} {v : Value} (hl : L.length = nL) (hi : i < nL) (h : lv_has ls nL ((i, rl f v) :: (lvl f L).filter (fun q => !(q.1 == i) && !(q.1 + 1 == i && q.2.category == 2)))) : lok f ls nL (st1 L i v) := by
  refine lok_of h (by unfold st1; rw [List.length_set, clr_len]; exact hl) fun j w hw => ?_
  unfold st1 at hw
  by_cases e : j = i
  · subst e
    rw [List.getElem?_set_self (by rw [clr_len, hl]; exact hi)] at hw
    cases hw
    exact List.mem_cons_self
  · rw [List.getElem?_set_ne (Ne.symm e)] at hw
    obtain ⟨h1, h2⟩ := clr_get hw
    refine List.mem_cons_of_mem _ (List.mem_filter.mpr ⟨lvl_mem h1, ?_⟩)
    have h3 : ¬ (j + 1 = i ∧ (rl f w).category = 2) := by rw [rl_cat]; exact h2
    simp only [Bool.and_eq_true, Bool.not_eq_true', beq_eq_false_iff_ne, ne_eq, Bool.and_eq_false_iff]
    refine ⟨e, ?_⟩
    by_cases h4 : j + 1 = i
    · right; intro h5; exact h3 ⟨h4, h5⟩
    · left; exact h4
theorem lok_st2 {f : Nat → Nat} {ls : Array Slot} {nL i : Nat} {L : Lc} {v : Value} (hl : L.length = nL) (hi : i + 1 < nL) (h : lv_has ls nL ((i, rl f v) :: (lvl f L).filter (fun q => !(q.1 == i) && (!(q.1 == i + 1) && !(q.1 + 1 == i && q.2.category == 2))))) : lok f ls nL (st2 L i v) := by
  refine lok_of h (by unfold st2; rw [List.length_set, List.length_set, clr_len]; exact hl) fun j w hw => ?_
  unfold st2 at hw
  by_cases e1 : j = i + 1
  · subst e1
    rw [List.getElem?_set_self (by rw [List.length_set, clr_len, hl]; exact hi)] at hw
    cases hw
  · rw [List.getElem?_set_ne (Ne.symm e1)] at hw
    by_cases e : j = i
    · subst e
      rw [List.getElem?_set_self (by rw [clr_len, hl]; omega)] at hw
      cases hw
      exact List.mem_cons_self
    · rw [List.getElem?_set_ne (Ne.symm e)] at hw
      obtain ⟨h1, h2⟩ := clr_get hw
      refine List.mem_cons_of_mem _ (List.mem_filter.mpr ⟨lvl_mem h1, ?_⟩)
      have h3 : ¬ (j + 1 = i ∧ (rl f w).category = 2) := by rw [rl_cat]; exact h2
      simp only [Bool.and_eq_true, Bool.not_eq_true', beq_eq_false_iff_ne, ne_eq, Bool.and_eq_false_iff]
      refine ⟨e, e1, ?_⟩
      by_cases h4 : j + 1 = i
      · right; intro h5; exact h3 ⟨h4, h5⟩
      · left; exact h4
theorem lok_init {f : Nat → Nat} {as : List Value} {n : Nat} (h : (iL as).length ≤ n) : lok f ((lg_sl (as.map (rl f)) ++ List.replicate (n - (lg_sl (as.map (rl f))).length) Slot.unset).toArray) n (initL as n) := by
  have key : ∀ vs : List Value, (lg_sl (vs.map (rl f))).length = (iL vs).length := by
    intro vs
    induction vs with
    | nil => rfl
    | cons v vs ih =>
      have e1 : lg_sl (rl f v :: vs.map (rl f)) = (if (rl f v).category = 2 then [Slot.val (rl f v), Slot.second] else [Slot.val (rl f v)]) ++ lg_sl (vs.map (rl f)) := rfl
      rw [List.map_cons, e1, List.length_append, ih, rl_cat]
      show _ = (if v.category = 2 then some v :: none :: iL vs else some v :: iL vs).length
      split
      · rw [List.length_cons, List.length_cons, List.length_cons, List.length_cons, List.length_nil]; omega
      · rw [List.length_cons, List.length_cons, List.length_nil]; omega
  have hm : ∀ (vs : List Value) (k i : Nat) (v : Value), (iL vs)[i]? = some (some v) → (k + i, rl f v) ∈ lv_args k (vs.map (rl f)) := by
    intro vs
    induction vs with
    | nil => intro k i v hv; simp [iL] at hv
    | cons u vs ih =>
      intro k i v hv
      rw [List.map_cons, lv_args]
      unfold iL at hv
      rw [rl_cat]
      split at hv
      · rename_i hc
        rw [if_pos hc]
        match i, hv with
        | 0, hv => cases hv; exact List.mem_cons_self
        | 1, hv => cases hv
        | i + 2, hv =>
          refine List.mem_cons_of_mem _ ?_
          have := ih (k + 2) i v (by simpa using hv)
          rwa [show k + 2 + i = k + (i + 2) by omega] at this
      · rename_i hc
        rw [if_neg hc]
        match i, hv with
        | 0, hv => cases hv; exact List.mem_cons_self
        | i + 1, hv =>
          refine List.mem_cons_of_mem _ ?_
          have := ih (k + 1) i v (by simpa using hv)
          rwa [show k + 1 + i = k + (i + 1) by omega] at this
  refine lok_of (lv_entry (as.map (rl f)) (by rw [key]; exact h)) (by unfold initL; rw [List.length_append, List.length_replicate]; omega) fun i v hv => ?_
  unfold initL at hv
  by_cases hi : i < (iL as).length
  · rw [List.getElem?_append_left hi] at hv
    have := hm as 0 i v hv
    rwa [Nat.zero_add] at this
  · rw [List.getElem?_append_right (by omega)] at hv
    have := List.getElem?_eq_some_iff.mp hv
    obtain ⟨h1, h2⟩ := this
    rw [List.getElem_replicate] at h2
    cases h2
