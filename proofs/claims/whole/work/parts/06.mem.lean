/-! fields, rows, new cells -/
def isRT (t : FieldType) : Bool := match t with
  | .object _ => true
  | .array _ => true
  | _ => false
theorem isRT_d {t : FieldType} (h : isRT t = true) : defaultValue t = .null := by cases t <;> first | rfl | cases h
theorem isRT_n {t : FieldType} (h : isRT t = true) (a : Nat) : narrow t (.ref a) = .ref a := by cases t <;> first | rfl | cases h
theorem isRT_f {t : FieldType} (h : isRT t = true) (a : Nat) : fits t (.ref a) = true := by cases t <;> first | rfl | cases h
def zok (ci : Nat) (q : vw_C) : Prop := (∀ w ∈ u_ws q.1 q.2.1 q.2.2, w ∈ lw_tbl ∧ goodWord w = true) ∧ (∀ k, k < q.2.2 → parseFieldDescriptor (q.2.1 k).2.2.1 = some (zty.getD ci zt0 k)) ∧ (∀ a, a < q.2.2 → ∀ b, b < q.2.2 → a ≠ b → (q.2.1 a).2.1 ≠ (q.2.1 b).2.1) ∧ (∀ k, k < q.2.2 → (fty zft ci k = 0 ∧ zty.getD ci zt0 k = .int) ∨ (fty zft ci k = 1 ∧ zty.getD ci zt0 k = .boolean) ∨ (fty zft ci k = 2 ∧ isRT (zty.getD ci zt0 k) = true)) ∧ ∀ k, k < q.2.2 → (q.2.1 k).1 = q.1
theorem zok_0 : ∀ q, zcl[0]? = some q → zok 0 q := by
  intro q h
  cases h
  exact ⟨by decide +kernel, by decide +kernel, by decide +kernel, by decide +kernel, by decide +kernel⟩
theorem zok_1 : ∀ q, zcl[1]? = some q → zok 1 q := by
  intro q h
  cases h
  exact ⟨by decide +kernel, by decide +kernel, by decide +kernel, by decide +kernel, by decide +kernel⟩
theorem zok_2 : ∀ q, zcl[2]? = some q → zok 2 q := by
  intro q h
  cases h
  exact ⟨by decide +kernel, by decide +kernel, by decide +kernel, by decide +kernel, by decide +kernel⟩
theorem zok_3 : ∀ q, zcl[3]? = some q → zok 3 q := by
  intro q h
  cases h
  exact ⟨by decide +kernel, by decide +kernel, by decide +kernel, by decide +kernel, by decide +kernel⟩
theorem zok_4 : ∀ q, zcl[4]? = some q → zok 4 q := by
  intro q h
  cases h
  exact ⟨by decide +kernel, by decide +kernel, by decide +kernel, by decide +kernel, by decide +kernel⟩
theorem zok_5 : ∀ q, zcl[5]? = some q → zok 5 q := by
  intro q h
  cases h
  exact ⟨by decide +kernel, by decide +kernel, by decide +kernel, by decide +kernel, by decide +kernel⟩
theorem zok_6 : ∀ q, zcl[6]? = some q → zok 6 q := by
  intro q h
  cases h
  exact ⟨by decide +kernel, by decide +kernel, by decide +kernel, by decide +kernel, by decide +kernel⟩
theorem zok_7 : ∀ q, zcl[7]? = some q → zok 7 q := by
  intro q h
  cases h
  exact ⟨by decide +kernel, by decide +kernel, by decide +kernel, by decide +kernel, by decide +kernel⟩
theorem zok_8 : ∀ q, zcl[8]? = some q → zok 8 q := by
  intro q h
  cases h
  exact ⟨by decide +kernel, by decide +kernel, by decide +kernel, by decide +kernel, by decide +kernel⟩
theorem zok_9 : ∀ q, zcl[9]? = some q → zok 9 q := by
  intro q h
  cases h
  exact ⟨by decide +kernel, by decide +kernel, by decide +kernel, by decide +kernel, by decide +kernel⟩
theorem zok_10 : ∀ q, zcl[10]? = some q → zok 10 q := by
  intro q h
  cases h
  exact ⟨by decide +kernel, by decide +kernel, by decide +kernel, by decide +kernel, by decide +kernel⟩
theorem zok_11 : ∀ q, zcl[11]? = some q → zok 11 q := by
  intro q h
  cases h
  exact ⟨by decide +kernel, by decide +kernel, by decide +kernel, by decide +kernel, by decide +kernel⟩
theorem zok_12 : ∀ q, zcl[12]? = some q → zok 12 q := by
  intro q h
  cases h
  exact ⟨by decide +kernel, by decide +kernel, by decide +kernel, by decide +kernel, by decide +kernel⟩
theorem zok_all {ci : Nat} {q : vw_C} (h : zcl[ci]? = some q) : zok ci q := by
  match ci, h with
  | 0, h => exact zok_0 q h
  | 1, h => exact zok_1 q h
  | 2, h => exact zok_2 q h
  | 3, h => exact zok_3 q h
  | 4, h => exact zok_4 q h
  | 5, h => exact zok_5 q h
  | 6, h => exact zok_6 q h
  | 7, h => exact zok_7 q h
  | 8, h => exact zok_8 q h
  | 9, h => exact zok_9 q h
  | 10, h => exact zok_10 q h
  | 11, h => exact zok_11 q h
  | 12, h => exact zok_12 q h
  | n + 13, h => simp [zcl] at h
/-! shapes and their changes -/
theorem setR_get {l : List Shp} {c k : Nat} {r : Option Nat} {s : Shp} (h : l[c]? = some s) : (setR l c k r)[c]? = some (s.1, s.2.1, s.2.2.set k r) := by
  unfold setR
  rw [h]
  exact List.getElem?_set_self (List.getElem?_eq_some_iff.mp h).1
theorem setR_len (l : List Shp) (c k : Nat) (r : Option Nat) : (setR l c k r).length = l.length := by
  unfold setR
  split
  · exact List.length_set
  · rfl
theorem setR_ne {l : List Shp} {c k j : Nat} {r : Option Nat} (h : j ≠ c) : (setR l c k r)[j]? = l[j]? := by
  unfold setR
  split
  · exact List.getElem?_set_ne (Ne.symm h)
  · rfl
theorem up2_ne {g : Sg} {c i j : Nat} {v : Int32} (h : j ≠ c) : up2 g c i v j = g j := by
  funext k
  simp [up2, h]
theorem Wf.wr {M : Mm} {c i : Nat} {v : Int32} {t n : Nat} {rs : List (Option Nat)} (h : Wf M) (hc : M.1[c]? = some (t, n, rs)) (h1 : t = 1 → fits .byte (.int v) = true) (h2 : t = 2 → fits .boolean (.int v) = true) : Wf (M.1, up2 M.2 c i v) := by
  obtain ⟨a1, a2, a3, a4⟩ := h
  have hl := (List.getElem?_eq_some_iff.mp hc).1
  refine ⟨a1, fun d hd j => ?_, fun d n' rs' hd j => ?_, fun d n' rs' hd j => ?_⟩
  · have : d ≠ c := fun e => by subst e; exact absurd hl (Nat.not_lt.mpr hd)
    show up2 M.2 c i v d j = 0
    rw [up2_ne this]; exact a2 d hd j
  · show fits .byte (.int (up2 M.2 c i v d j)) = true
    by_cases e : d = c
    · subst e
      have hd' : M.1[d]? = some (1, n', rs') := hd
      rw [hc] at hd'
      unfold up2
      split
      · exact h1 (by cases hd'; rfl)
      · exact a3 d n rs (by cases hd'; exact hc) j
    · rw [up2_ne e]; exact a3 d n' rs' hd j
  · show fits .boolean (.int (up2 M.2 c i v d j)) = true
    by_cases e : d = c
    · subst e
      have hd' : M.1[d]? = some (2, n', rs') := hd
      rw [hc] at hd'
      unfold up2
      split
      · exact h2 (by cases hd'; rfl)
      · exact a4 d n rs (by cases hd'; exact hc) j
    · rw [up2_ne e]; exact a4 d n' rs' hd j
theorem Wf.sr {M : Mm} {c k : Nat} {r : Option Nat} (h : Wf M) : Wf (setR M.1 c k r, M.2) := by
  obtain ⟨a1, a2, a3, a4⟩ := h
  have key : ∀ (d t n : Nat) (rs : List (Option Nat)), (setR M.1 c k r)[d]? = some (t, n, rs) → ∃ rs', M.1[d]? = some (t, n, rs') := by
    intro d t n rs hd
    by_cases e : d = c
    · subst e
      cases hs : M.1[d]? with
      | none => rw [setR, hs] at hd; rw [hs] at hd; cases hd
      | some s => rw [setR_get hs] at hd; cases hd; exact ⟨s.2.2, rfl⟩
    · rw [setR_ne e] at hd; exact ⟨rs, hd⟩
  refine ⟨by rw [setR_len]; exact a1, fun d hd j => a2 d (by rw [setR_len] at hd; exact hd) j, fun d n rs hd j => ?_, fun d n rs hd j => ?_⟩
  · obtain ⟨rs', h'⟩ := key d 1 n rs hd
    exact a3 d n rs' h' j
  · obtain ⟨rs', h'⟩ := key d 2 n rs hd
    exact a4 d n rs' h' j
theorem Wf.app {M : Mm} {ss : List Shp} (h : Wf M) (hl : M.1.length + ss.length ≤ 1000) : Wf (M.1 ++ ss, M.2) := by
  obtain ⟨a1, a2, a3, a4⟩ := h
  have z : ∀ d, ¬ d < M.1.length → ∀ j, M.2 d j = 0 := fun d hd j => a2 d (Nat.not_lt.mp hd) j
  refine ⟨by rw [List.length_append]; exact hl, fun d hd j => a2 d (by rw [List.length_append] at hd; omega) j, fun d n rs hd j => ?_, fun d n rs hd j => ?_⟩
  · by_cases e : d < M.1.length
    · rw [List.getElem?_append_left e] at hd; exact a3 d n rs hd j
    · rw [z d e j]; rfl
  · by_cases e : d < M.1.length
    · rw [List.getElem?_append_left e] at hd; exact a4 d n rs hd j
    · rw [z d e j]; rfl
theorem cp2_ne {g : Sg} {a i b j n c : Nat} (h : c ≠ b) : cp2 g a i b j n c = g c := by
  funext k
  simp [cp2, h]
theorem Wf.cp {M : Mm} {a i b j n t na nb : Nat} {ra rb : List (Option Nat)} (h : Wf M) (ha : M.1[a]? = some (t, na, ra)) (hb : M.1[b]? = some (t, nb, rb)) : Wf (M.1, cp2 M.2 a i b j n) := by
  obtain ⟨a1, a2, a3, a4⟩ := h
  have hl := (List.getElem?_eq_some_iff.mp hb).1
  refine ⟨a1, fun d hd q => ?_, fun d n' rs' hd q => ?_, fun d n' rs' hd q => ?_⟩
  · have : d ≠ b := fun e => by subst e; exact absurd hl (Nat.not_lt.mpr hd)
    show cp2 M.2 a i b j n d q = 0
    rw [cp2_ne this]; exact a2 d hd q
  · show fits .byte (.int (cp2 M.2 a i b j n d q)) = true
    unfold cp2
    split
    · rename_i e
      have hd' : M.1[d]? = some (1, n', rs') := hd
      rw [e.1, hb] at hd'
      exact a3 a na ra (by cases hd'; exact ha) _
    · exact a3 d n' rs' hd q
  · show fits .boolean (.int (cp2 M.2 a i b j n d q)) = true
    unfold cp2
    split
    · rename_i e
      have hd' : M.1[d]? = some (2, n', rs') := hd
      rw [e.1, hb] at hd'
      exact a4 a na ra (by cases hd'; exact ha) _
    · exact a4 d n' rs' hd q
theorem Rel.put {D : va_G} {f : Nat → Nat} {B : Nat} {cA : Nat → ClassId} {M M' : Mm} {H H1 : Heap} {a : Nat} {s' : Shp} (hR : Rel D f B cA M H) (hl : M'.1.length = M.1.length) (hs : M'.1[a]? = some s') (ho : ∀ j, j ≠ a → M'.1[j]? = M.1[j]? ∧ M'.2 j = M.2 j) (hat : va_at D zcl (B + a, ent f cA M'.2 a s') H1) (z : H1.size = H.size) (oq : ∀ q : Nat, q ≠ B + a → H1[q]? = H[q]?) (hw : Wf M') : Rel D f B cA M' H1 := by
  have ha : a < M.1.length := by rw [← hl]; exact (List.getElem?_eq_some_iff.mp hs).1
  have h0 : M.1[a]? = some M.1[a] := List.getElem?_eq_getElem ha
  refine ⟨?_, by rw [z, hR.2.1, hl], hw⟩
  rw [← wld_set hl hs rfl ho]
  exact hR.1.set wld_D (wld_get h0) hat oq
theorem Rel.app {D : va_G} {f : Nat → Nat} {B : Nat} {cA : Nat → ClassId} {M : Mm} {H H1 : Heap} {ss : List Shp} (hR : Rel D f B cA M H) (hat : ∀ i s, ss[i]? = some s → va_at D zcl (B + (M.1.length + i), ent f cA M.2 (M.1.length + i) s) H1) (z : H1.size = H.size + ss.length) (oq : ∀ q : Nat, q < H.size → H1[q]? = H[q]?) (hw : M.1.length + ss.length ≤ 1000) : Rel D f B cA (M.1 ++ ss, M.2) H1 := by
  refine ⟨fun k q hk => ?_, by rw [z, hR.2.1]; show _ = B + (M.1 ++ ss).length; rw [List.length_append]; omega, hR.2.2.app hw⟩
  obtain ⟨s, hs, rfl⟩ := wld_inv hk
  by_cases e : k < M.1.length
  · have hs' : M.1[k]? = some s := by rw [← hs]; exact (List.getElem?_append_left e).symm
    have h1 := hR.1 k _ (wld_get hs')
    exact h1.kept (oq _ h1.lt)
  · have hs' : ss[k - M.1.length]? = some s := by rw [← hs]; exact (List.getElem?_append_right (by omega)).symm
    have := hat _ s hs'
    rw [show M.1.length + (k - M.1.length) = k by omega] at this
    exact this
theorem ent_low {f : Nat → Nat} {cA : Nat → ClassId} {g : Sg} {i t n : Nat} {rs : List (Option Nat)} (h : t < 3) : ent f cA g i (t, n, rs) = .inl (cA t, n, .inl (g i)) := by
  unfold ent
  rw [if_neg (by show ¬ 10 ≤ t; omega), if_pos h]
theorem ent_ref {f : Nat → Nat} {cA : Nat → ClassId} {g : Sg} {i t n : Nat} {rs : List (Option Nat)} (h : t = 3 ∨ t = 4) : ent f cA g i (t, n, rs) = .inl (cA t, n, .inr (.inr (.inr (.inr (fun j => (rs[j]?).join.map f))))) := by
  unfold ent
  rw [if_neg (by show ¬ 10 ≤ t; omega), if_neg (by show ¬ t < 3; omega)]
theorem ent_obj {f : Nat → Nat} {cA : Nat → ClassId} {g : Sg} {i ci n : Nat} {rs : List (Option Nat)} : ent f cA g i (10 + ci, n, rs) = .inr (ci, (List.range n).map (fun k => if fty zft ci k = 2 then rl f (rv rs[k]?) else .int (g i k))) := by
  unfold ent
  rw [if_pos (by show 10 ≤ 10 + ci; omega)]
  show Sum.inr (10 + ci - 10, _) = _
  rw [show 10 + ci - 10 = ci by omega]
theorem rv_rf (f : Nat → Nat) (o : Option (Option Nat)) : va_rf (o.join.map f) = rl f (rv o) := by
  cases o with
  | none => rfl
  | some o => cases o <;> rfl
theorem mapr_get {α : Type} {n k : Nat} {F : Nat → α} (h : k < n) : ((List.range n).map F)[k]? = some (F k) := by
  rw [List.getElem?_map, List.getElem?_range h]; rfl
theorem mapr_set {α : Type} {n k : Nat} {v : α} {F F' : Nat → α} (h : F' k = v) (ho : ∀ j, j ≠ k → F' j = F j) : ((List.range n).map F).set k v = (List.range n).map F' := by
  apply List.ext_getElem?
  intro j
  by_cases e : j = k
  · subst e
    by_cases hj : j < n
    · rw [List.getElem?_set_self (by simpa using hj), mapr_get hj, h]
    · rw [List.getElem?_eq_none (by simpa using Nat.not_lt.mp hj), List.getElem?_eq_none (by simpa using Nat.not_lt.mp hj)]
  · rw [List.getElem?_set_ne (Ne.symm e)]
    by_cases hj : j < n
    · rw [mapr_get hj, mapr_get hj, ho j e]
    · rw [List.getElem?_eq_none (by simpa using Nat.not_lt.mp hj), List.getElem?_eq_none (by simpa using Nat.not_lt.mp hj)]
/-! what lies outside -/
theorem xsh_0 {X : Xx} {a n : Nat} {rs : List (Option Nat)} (h : xsh X a = some (0, n, rs)) : (a = 1000 ∧ n = X.1) ∨ (a = 1001 ∧ n = 5) ∨ (a = 1002 ∧ n = 5) := by
  unfold xsh at h
  repeat' split at h
  all_goals first | (cases h; omega) | cases h
theorem xsh_1 {X : Xx} {a t n : Nat} {rs : List (Option Nat)} (h : xsh X a = some (t, n, rs)) (ht : t = 1 ∨ t = 2) : t = 1 ∧ ∃ j, j < 12 ∧ a = 1030 + j ∧ n = (strs.getD j []).length := by
  unfold xsh at h
  repeat' split at h
  all_goals first | (injection h with h; injection h with h1 h2; exfalso; omega) | (simp only [reduceCtorEq] at h; done) | skip
  injection h with h
  injection h with h1 h2
  injection h2 with h3 h4
  exact ⟨h1.symm, a - 1030, by omega, by omega, h3.symm⟩
theorem xsh_50 {X : Xx} {a ci n : Nat} {rs : List (Option Nat)} (h : xsh X a = some (10 + ci, n, rs)) : ci = 40 ∧ n = 2 ∧ ∃ j, j < 12 ∧ a = 1010 + j ∧ rs = [some (1030 + j), none] := by
  unfold xsh at h
  repeat' split at h
  all_goals first | (injection h with h; injection h with h1 h2; omega) | skip
  all_goals first | (cases h; done) | skip
  injection h with h
  injection h with h1 h2
  injection h2 with h3 h4
  exact ⟨by omega, h3.symm, a - 1010, by omega, by omega, by rw [← h4, show 1030 + (a - 1010) = a + 20 by omega]⟩
theorem xsh_t {X : Xx} {a t n : Nat} {rs : List (Option Nat)} (h : xsh X a = some (t, n, rs)) : t = 0 ∨ t = 1 ∨ t = 50 := by
  unfold xsh at h
  repeat' split at h
  all_goals first | (injection h with h; injection h with h1 h2; omega) | cases h
theorem shOf_lo {X : Xx} {M : Mm} {a : Nat} (h : a < 1000) : shOf X M a = M.1[a]? := if_pos h
theorem shOf_hi {X : Xx} {M : Mm} {a : Nat} (h : ¬ a < 1000) : shOf X M a = xsh X a := if_neg h
theorem okE_of {own nm : String} {cc : ByteArray} {pc n : Nat} {i : Instr} {au : List Nat} {v : Int} (h : okE own nm cc (pc, i, n, au, v) = true) : decode cc pc = .ok (i, n) ∧ (lnO i = 0 ∨ lnO i = n) ∧ xd own nm (pc, i, n, au, v) = true ∧ ∀ w ∈ nd own (pc, i, n, au, v), lw_tbl[w.1]? = some w.2 ∧ (goodWord w.2 = true ∨ isNst w.2 = true) := by
  unfold okE at h
  simp only [Bool.and_eq_true, decide_eq_true_eq, List.all_eq_true, Bool.or_eq_true] at h
  exact h
section ZM
variable {p : Program} {l : Launch} {e : Env} {R : Room} {s : State} {m : MethodId} {args : Array Value} {below : List Frame} {meth : Method} {c : Code} {H : Heap} {locs : List Loc} {cells slots : Nat} {Q : State → Prop}
variable {cc : ByteArray} {pc nL len : Nat} {ls : Array Slot} {own nm : String} {Ts : List Jvm.Cond} {D : va_G} {B : Nat} {E : Nat → Nat} {cA : Nat → ClassId} {X : Xx} {M : Mm} {L : Lc} {st : List Value} {au : List Nat} {v : Int} {x : Nx}
theorem Ctx.word (C : Ctx p R s m args meth c cc nL own nm Ts D B E cA X) {q : Nat × Jvm.Cond} (h : lw_tbl[q.1]? = some q.2) (g : goodWord q.2 = true ∨ isNst q.2 = true) : q.2.before args s = true := by
  obtain ⟨-, -, -, -, hts, hin, hG, -⟩ := C
  have hm := List.mem_of_getElem? h
  by_cases hg : goodWord q.2 = true
  · exact hts _ (hin _ hm hg)
  · have hn : isNst q.2 = true := g.resolve_left hg
    have hb := hG.2.1 _ hm hn
    generalize q.2 = w at hb hn
    match w, hn, hb with
    | .methodLinkNest _ _ _ _, _, hb => exact va_Nw.use rfl hb
    | .fieldLinkNest _ _ _ _ _ _, _, hb => exact va_Nw.use rfl hb
    | .arrayOver _, _, hb => exact hb
theorem c_get {ix : Nat} (C : Ctx p R s m args meth c cc nL own nm Ts D B E cA X) (hok : okE own nm cc (pc, .getfield ix, len, au, v) = true) (h : gfd zft X pc au L st M = some x) (hR : Rel D (zad B E) B cA M H) (hl : lok (zad B E) ls nL L) (hS : va_S (fun q => B ≤ q) s.heap H locs) (K : Kont p l e R s m args below meth c cells slots Q nL D B E cA M x) : W p l e R s m args below meth c H locs cells slots Q (F0 m pc ls (st.map (rl (zad B E)))) := by
  obtain ⟨hd, hln, hxd, hnd⟩ := okE_of hok
  have hlen : len = 3 := (hln.resolve_left (show ¬ 3 = 0 by decide)).symm
  subst hlen
  have C0 := C
  obtain ⟨hx, hb, hml, hown, hts, hin, hG, hnm, -, -⟩ := C
  unfold gfd at h
  split at h
  case h_2 => cases h
  rename_i ci k tl a r
  split at h
  case h_2 => cases h
  rename_i val hgf
  cases h
  unfold gf at hgf
  split at hgf
  case h_2 => cases hgf
  rename_i t n rs hsh
  split at hgf
  case isFalse => cases hgf
  rename_i hc
  obtain ⟨rfl, hk⟩ := hc
  cases hgf
  obtain ⟨p0, rfl⟩ : ∃ p0, tl = [p0] := by
    match tl, hxd with
    | [p0], _ => exact ⟨p0, rfl⟩
    | [], hxd => cases hxd
    | _ :: _ :: _, hxd => cases hxd
  have hxd' : (match zcl[ci]? with | some (_, _, N) => decide (k < N) | none => decide (ci = 40 ∧ k < 2)) = true := hxd
  by_cases ha : a < 1000
  · rw [shOf_lo ha] at hsh
    have he := wld_get (f := zad B E) (B := B) (cA := cA) hsh
    rw [ent_obj] at he
    cases hz : zcl[ci]? with
    | none =>
      obtain ⟨q', h1, -⟩ := hR.1 a _ he
      exact absurd (h1.symm.trans hz) (by simp)
    | some q =>
      obtain ⟨Cn, T, N⟩ := q
      rw [hz] at hxd'
      have hkN : k < N := by simpa using hxd'
      have Z := zok_all hz
      have hw := hnd (p0, .fieldLink own ix Cn (T k).2.1 (T k).2.2.1) (by
        show _ ∈ (if ci = 40 then _ else match zcl[ci]? with | some (C, T, _) => _ | none => _ : List (Nat × Jvm.Cond))
        rw [if_neg (by intro e; subst e; exact absurd hz (by simp [zcl])), hz]
        exact List.mem_singleton.mpr rfl)
      have hlink := C0.word hw.1 hw.2
      have har : zad B E a = B + a := if_pos ha
      show W _ _ _ _ _ _ _ _ _ _ _ _ _ _ _ (F0 m pc ls (.ref (zad B E a) :: r.map (rl (zad B E))))
      rw [har]
      refine va_get (D := D) (ci := ci) (v := if fty zft ci k = 2 then rl (zad B E) (rv rs[k]?) else .int (M.2 a k)) (C := Cn) (T := T) (N := N) hx hb hts (fun w hw => hin w (Z.1 w hw).1 (Z.1 w hw).2) hown hG.1 hR.1 a he hz k hkN hlink (fun y hy => by rw [Z.2.2.2.2 k hkN] at hy; exact hy) (mapr_get hk) hd ?_
      have K' := K.here hR hS hl
      have e1 : rdv X M.2 a k = M.2 a k := if_pos ha
      rw [e1] at K'
      have e2 : ((if fty zft ci k = 2 then rv rs[k]? else .int (M.2 a k)) :: r).map (rl (zad B E)) = (if fty zft ci k = 2 then rl (zad B E) (rv rs[k]?) else .int (M.2 a k)) :: r.map (rl (zad B E)) := by
        rw [List.map_cons]
        split <;> rfl
      rw [e2] at K'
      exact K'
  · rw [shOf_hi ha] at hsh
    obtain ⟨rfl, rfl, j, hj, rfl, rfl⟩ := xsh_50 hsh
    have hS11 := hG.2.2.2.2.2.2.2.2.2.2.1
    have hz : zcl[40]? = none := by decide +kernel
    have K' := K.here hR hS hl
    have har : zad B E (1010 + j) = E (1010 + j) := if_neg ha
    show W _ _ _ _ _ _ _ _ _ _ _ _ _ _ _ (F0 m pc ls (.ref (zad B E (1010 + j)) :: r.map (rl (zad B E))))
    rw [har]
    have hk2 : k = 0 ∨ k = 1 := by omega
    rcases hk2 with rfl | rfl
    · have hw := hnd (p0, .fieldLink own ix "java/lang/String" "value" "[B") (show _ ∈ [((p0, .fieldLink own ix "java/lang/String" "value" "[B") : Nat × Jvm.Cond)] from List.mem_singleton.mpr rfl)
      refine vk_getf (o := "java/lang/String") (n := "value") (d := "[B") hx hb (hS11.1 j hj).2.2.1 hS hown (C0.word hw.1 hw.2) (fun _ h9 => h9) hd ?_
      have e2 : rl (zad B E) (.ref (1030 + j)) = .ref (E (1030 + j)) := by show Value.ref (zad B E (1030 + j)) = _; rw [zad, if_neg (by omega)]
      have e3 : fty zft 40 0 = 2 := by decide +kernel
      rw [e3, if_pos rfl, List.map_cons] at K'
      have e4 : rl (zad B E) (rv ([some (1030 + j), none] : List (Option Nat))[0]?) = .ref (E (1030 + j)) := e2
      rw [e4] at K'
      exact K'
    · have hw := hnd (p0, .fieldLink own ix "java/lang/String" "coder" "B") (show _ ∈ [((p0, .fieldLink own ix "java/lang/String" "coder" "B") : Nat × Jvm.Cond)] from List.mem_singleton.mpr rfl)
      refine vk_getf (o := "java/lang/String") (n := "coder") (d := "B") hx hb (hS11.1 j hj).2.1 hS hown (C0.word hw.1 hw.2) (fun _ h9 => h9) hd ?_
      have e3 : fty zft 40 1 = 0 := by decide +kernel
      have e5 : rdv X M.2 (1010 + j) 1 = 0 := by
        unfold rdv xva
        rw [if_neg (by omega), if_neg (by omega), if_neg (by omega), if_neg (by omega), if_pos (by omega)]
      rw [e3, if_neg (by decide), e5] at K'
      exact K'
end ZM
