section ZP
variable {p : Program} {l : Launch} {e : Env} {R : Room} {s : State} {m : MethodId} {args : Array Value} {below : List Frame} {meth : Method} {c : Code} {H : Heap} {locs : List Loc} {cells slots : Nat} {Q : State → Prop}
variable {cc : ByteArray} {pc nL len : Nat} {ls : Array Slot} {own nm : String} {Ts : List Jvm.Cond} {D : va_G} {B : Nat} {E : Nat → Nat} {cA : Nat → ClassId} {X : Xx} {M : Mm} {L : Lc} {st : List Value} {au : List Nat} {v : Int} {x : Nx}
theorem szs_app (l : List Shp) (ss : List Shp) (g : Sg) : szs (l ++ ss, g) = szs (l, g) + szs (ss, g) := by
  unfold szs
  rw [List.map_append, List.sum_append]
/-- behind new cells -/
theorem Kont.app {ss : List Shp} {H1 : Heap} {cells' slots' : Nat} (K : Kont p l e R s m args below meth c cells slots Q nL D B E cA M (pc, L, st, some (.inl ss))) (hR : Rel D (zad B E) B cA M H) (hl : lok (zad B E) ls nL L) (hS : va_S (fun q => B ≤ q) s.heap H locs) (hat : ∀ i s, ss[i]? = some s → va_at D zcl (B + (M.1.length + i), ent (zad B E) cA M.2 (M.1.length + i) s) H1) (z : H1.size = H.size + ss.length) (oq : ∀ q : Nat, q < H.size → H1[q]? = H[q]?) (hw : M.1.length + ss.length ≤ 1000) (hc : cells' = cells + ss.length) (hs : slots' = slots + szs (ss, M.2)) : W p l e R s m args below meth c H1 locs cells' slots' Q (F0 m pc ls (st.map (rl (zad B E)))) := by
  refine K H1 ls locs cells' slots' (hR.app hat z oq hw) hl ⟨Nat.le_trans hS.1 (by omega), fun q h1 h2 => (oq q (Nat.lt_of_lt_of_le h1 hS.1)).trans (hS.2.1 q h1 h2), hS.2.2⟩ ?_ ?_
  · show _ = _ + ((M.1 ++ ss).length - _); rw [List.length_append]; omega
  · show _ = _ + (szs (M.1 ++ ss, M.2) - szs M); rw [szs_app]; show _ = _ + (szs M + _ - szs M); omega
theorem one_at {P : Nat → Shp → Prop} {s : Shp} (h : P 0 s) : ∀ i t, ([s] : List Shp)[i]? = some t → P i t := by
  intro i t ht
  have hi : i < 1 := (List.getElem?_eq_some_iff.mp ht).1
  obtain rfl : i = 0 := by omega
  cases ht
  exact h
theorem c_new {ix : Nat} (C : Ctx p R s m args meth c cc nL own nm Ts D B E cA X) (hok : okE own nm cc (pc, .new ix, len, au, v) = true) (h : pcore zft X (.new ix, len, au, v) pc L st M = some x) (hR : Rel D (zad B E) B cA M H) (hl : lok (zad B E) ls nL L) (hS : va_S (fun q => B ≤ q) s.heap H locs) (hrc : cells + ((apA M x.2.2.2).1.length - M.1.length) ≤ R.cells) (hrs : slots + (szs (apA M x.2.2.2) - szs M) ≤ R.slots) (K : Kont p l e R s m args below meth c cells slots Q nL D B E cA M x) : W p l e R s m args below meth c H locs cells slots Q (F0 m pc ls (st.map (rl (zad B E)))) := by
  obtain ⟨hd, hln, hxd, hnd⟩ := okE_of hok
  have hlen : len = 3 := (hln.resolve_left (show ¬ 3 = 0 by decide)).symm
  subst hlen
  have C0 := C
  obtain ⟨hx, hb, hml, hown, hts, hin, hG, hnm, -, -⟩ := C
  match au, hxd, hnd, h with
  | [], hxd, hnd, h => cases hxd
  | [_], hxd, hnd, h => cases hxd
  | [_, _], hxd, hnd, h => cases hxd
  | [_, _, _], hxd, hnd, h => cases hxd
  | [_, _, _, _], hxd, hnd, h => cases hxd
  | _ :: _ :: _ :: _ :: _ :: _ :: _, hxd, hnd, h => cases hxd
  | [ci, n, p1, p2, p3], hxd, hnd, h =>
    have h' : (if M.1.length < 999 then some ((pc + 3, L, .ref M.1.length :: st, some (.inl [(10 + ci, n, List.replicate n none)])) : Nx) else none) = some x := h
    split at h'
    case isFalse => cases h'
    rename_i hM
    cases h'
    have hxd' : (match zcl[ci]? with | some (_, _, N) => decide (n = N) | none => false) = true := hxd
    cases hz : zcl[ci]? with
    | none => rw [hz] at hxd'; cases hxd'
    | some q =>
      obtain ⟨Cn, T, N⟩ := q
      rw [hz] at hxd'
      have hnN : n = N := by simpa using hxd'
      subst hnN
      have Z := zok_all hz
      have key : ∀ q, q ∈ [((p1, .classLink own ix Cn) : Nat × Jvm.Cond), (p2, .instantiable Cn n), (p3, .initialized Cn)] → q.2.before args s = true := by
        intro q hq
        have hw := hnd q (by
          show _ ∈ (match zcl[ci]? with | some (C, _, N) => _ | none => _ : List (Nat × Jvm.Cond))
          rw [hz]
          exact hq)
        exact C0.word hw.1 hw.2
      have hKn := hG.1.1 ci _ hz
      have hinT : ∀ w ∈ u_ws Cn T n, w ∈ Ts := fun w hw => hin w (Z.1 w hw).1 (Z.1 w hw).2
      have e1 : (apA M (some (.inl [(10 + ci, n, List.replicate n none)]))).1.length = M.1.length + 1 := by show (M.1 ++ _).length = _; rw [List.length_append]; rfl
      have e2 : szs (apA M (some (.inl [(10 + ci, n, List.replicate n none)]))) = szs M + n := by show szs (M.1 ++ _, M.2) = _; rw [szs_app]; show szs M + (n + 0) = _; omega
      refine W.newcK hx hb hown (key (p1, .classLink own ix Cn) (by simp)) (key (p2, .instantiable Cn n) (by simp)) (key (p3, .initialized Cn) (by simp)) rfl hd (by rw [e1] at hrc; omega) (by rw [e2] at hrs; omega) hKn.2.1 rfl fun H1 kC hkC e1' z1 o1 => ?_
      have hsz := hR.2.1
      have hfr : F0 m (pc + 3) ls (.ref H.size :: st.map (rl (zad B E))) = F0 m (pc + 3) ls ((Value.ref M.1.length :: st).map (rl (zad B E))) := by
        rw [List.map_cons]
        show _ = F0 m (pc + 3) ls (.ref (zad B E M.1.length) :: _)
        rw [zad, if_pos (by omega), hsz]
      refine W.eq hfr ?_
      refine K.app hR hl hS (one_at ?_) (by rw [z1]; rfl) o1 (by show M.1.length + 1 ≤ 1000; omega) rfl (by show _ = _ + (n + 0); omega)
      rw [ent_obj, Nat.add_zero, ← hsz]
      refine ⟨_, hz, (u_born _ hts hinT hKn hkC e1' Z.2.1).to fun j hj => ?_⟩
      have hj' : j < n := hj
      show _ = ((List.range n).map _).getD j Value.null
      have e9 : ∀ F : Nat → Value, ((List.range n).map F).getD j Value.null = F j := fun F => by rw [List.getD_eq_getElem?_getD, mapr_get hj']; rfl
      rw [e9]
      rcases Z.2.2.2.1 j hj' with ⟨h1, h2⟩ | ⟨h1, h2⟩ | ⟨h1, h2⟩
      · rw [h2, h1, if_neg (by decide), hR.2.2.2.1 _ (Nat.le_refl _)]; rfl
      · rw [h2, h1, if_neg (by decide), hR.2.2.2.1 _ (Nat.le_refl _)]; rfl
      · rw [h1, if_pos rfl, isRT_d h2, List.getElem?_replicate, if_pos hj']; rfl
theorem c_newa {t : Nat} {at' : ArrayType} (ht : (t = 0 ∧ at' = .int) ∨ (t = 1 ∧ at' = .byte) ∨ (t = 2 ∧ at' = .boolean)) (C : Ctx p R s m args meth c cc nL own nm Ts D B E cA X) (hok : okE own nm cc (pc, .newarray at', len, au, v) = true) (h : newA pc 2 t L st M false = some x) (hR : Rel D (zad B E) B cA M H) (hl : lok (zad B E) ls nL L) (hS : va_S (fun q => B ≤ q) s.heap H locs) (hrc : cells + ((apA M x.2.2.2).1.length - M.1.length) ≤ R.cells) (hrs : slots + (szs (apA M x.2.2.2) - szs M) ≤ R.slots) (K : Kont p l e R s m args below meth c cells slots Q nL D B E cA M x) : W p l e R s m args below meth c H locs cells slots Q (F0 m pc ls (st.map (rl (zad B E)))) := by
  obtain ⟨hd, hln, hxd, hnd⟩ := okE_of hok
  have hlen : len = 2 := (hln.resolve_left (show ¬ 2 = 0 by decide)).symm
  subst hlen
  have C0 := C
  obtain ⟨hx, hb, hml, hown, hts, hin, hG, hnm, -, -⟩ := C
  obtain ⟨p0, rfl⟩ : ∃ p0, au = [p0] := by
    have : au.length = 1 := by simpa [xd] using hxd
    match au, this with
    | [p0], _ => exact ⟨p0, rfl⟩
  have hw := hnd (p0, .arrayClass (newarray.typeOf at')) (show _ ∈ [((p0, .arrayClass (newarray.typeOf at')) : Nat × Jvm.Cond)] from List.mem_singleton.mpr rfl)
  have harr := C0.word hw.1 hw.2
  unfold newA at h
  split at h
  case h_2 => cases h
  rename_i n r
  split at h
  case isFalse => cases h
  rename_i hc
  obtain ⟨hn, hN, hM⟩ := hc
  cases h
  have e1 : (apA M (some (.inl [(t, n.toNatClampNeg, if (false = true) then List.replicate n.toNatClampNeg none else [])]))).1.length = M.1.length + 1 := by show (M.1 ++ _).length = _; rw [List.length_append]; rfl
  have e2 : szs (apA M (some (.inl [(t, n.toNatClampNeg, if (false = true) then List.replicate n.toNatClampNeg none else [])]))) = szs M + n.toNatClampNeg := by show szs (M.1 ++ _, M.2) = _; rw [szs_app]; show szs M + (n.toNatClampNeg + 0) = _; omega
  have hsz := hR.2.1
  have hcb : n.toNatClampNeg * componentBytes (newarray.typeOf at') ≤ 536870912 := by
    rcases ht with ⟨-, rfl⟩ | ⟨-, rfl⟩ | ⟨-, rfl⟩
    · show n.toNatClampNeg * 4 ≤ _; omega
    · show n.toNatClampNeg * 1 ≤ _; omega
    · show n.toNatClampNeg * 1 ≤ _; omega
  show W _ _ _ _ _ _ _ _ _ _ _ _ _ _ _ (F0 m pc ls (.int n :: r.map (rl (zad B E))))
  refine va_newaK hx hb harr rfl hd rfl hn rfl hcb (by rw [e1] at hrc; omega) (by rw [e2] at hrs; omega) rfl fun H1 cA' e1' z1 o1 hAr hNm => ?_
  have hcA : cA' = cA t := by
    rcases ht with ⟨rfl, rfl⟩ | ⟨rfl, rfl⟩ | ⟨rfl, rfl⟩
    · exact Option.some.inj (hNm.symm.trans (hG.1.2 0 _ rfl).2)
    · exact Option.some.inj (hNm.symm.trans (hG.1.2 1 _ rfl).2)
    · exact Option.some.inj (hNm.symm.trans (hG.1.2 2 _ rfl).2)
  subst hcA
  have hfr : F0 m (pc + 2) ls (.ref H.size :: r.map (rl (zad B E))) = F0 m (pc + 2) ls ((Value.ref M.1.length :: r).map (rl (zad B E))) := by
    rw [List.map_cons]
    show _ = F0 m (pc + 2) ls (.ref (zad B E M.1.length) :: _)
    rw [zad, if_pos (by omega), hsz]
  refine W.eq hfr ?_
  refine K.app hR hl hS (one_at ?_) (by rw [z1]; rfl) o1 (by show M.1.length + 1 ≤ 1000; omega) rfl (by show _ = _ + (n.toNatClampNeg + 0); omega)
  have ht3 : t < 3 := by omega
  rw [ent_low ht3, Nat.add_zero, ← hsz]
  show H1[H.size]? = some (vp_cell _ _)
  rw [e1', vp_cell_i]
  have hz0 : ∀ j, M.2 M.1.length j = 0 := fun j => hR.2.2.2.1 _ (Nat.le_refl _) j
  have hdv : defaultValue (newarray.typeOf at') = .int 0 := by
    rcases ht with ⟨-, rfl⟩ | ⟨-, rfl⟩ | ⟨-, rfl⟩ <;> rfl
  rw [hdv]
  simp only [hz0]
theorem c_newq {ix : Nat} (C : Ctx p R s m args meth c cc nL own nm Ts D B E cA X) (hok : okE own nm cc (pc, .anewarray ix, len, au, v) = true) (h : newA pc 3 3 L st M true = some x) (hR : Rel D (zad B E) B cA M H) (hl : lok (zad B E) ls nL L) (hS : va_S (fun q => B ≤ q) s.heap H locs) (hrc : cells + ((apA M x.2.2.2).1.length - M.1.length) ≤ R.cells) (hrs : slots + (szs (apA M x.2.2.2) - szs M) ≤ R.slots) (K : Kont p l e R s m args below meth c cells slots Q nL D B E cA M x) : W p l e R s m args below meth c H locs cells slots Q (F0 m pc ls (st.map (rl (zad B E)))) := by
  obtain ⟨hd, hln, hxd, hnd⟩ := okE_of hok
  have hlen : len = 3 := (hln.resolve_left (show ¬ 3 = 0 by decide)).symm
  subst hlen
  have C0 := C
  obtain ⟨hx, hb, hml, hown, hts, hin, hG, hnm, -, -⟩ := C
  obtain ⟨p1, p2, rfl⟩ : ∃ p1 p2, au = [p1, p2] := by
    have : au.length = 2 := by simpa [xd] using hxd
    match au, this with
    | [p1, p2], _ => exact ⟨p1, p2, rfl⟩
  have key : ∀ q, q ∈ [((p1, .classLink own ix "CliffWater$Told") : Nat × Jvm.Cond), (p2, .arrayOver (.object "CliffWater$Told"))] → q.2.before args s = true := by
    intro q hq
    have hw := hnd q hq
    exact C0.word hw.1 hw.2
  unfold newA at h
  split at h
  case h_2 => cases h
  rename_i n r
  split at h
  case isFalse => cases h
  rename_i hc
  obtain ⟨hn, hN, hM⟩ := hc
  cases h
  have e1 : (apA M (some (.inl [(3, n.toNatClampNeg, if (true = true) then List.replicate n.toNatClampNeg none else [])]))).1.length = M.1.length + 1 := by show (M.1 ++ _).length = _; rw [List.length_append]; rfl
  have e2 : szs (apA M (some (.inl [(3, n.toNatClampNeg, if (true = true) then List.replicate n.toNatClampNeg none else [])]))) = szs M + n.toNatClampNeg := by show szs (M.1 ++ _, M.2) = _; rw [szs_app]; show szs M + (n.toNatClampNeg + 0) = _; omega
  have hsz := hR.2.1
  show W _ _ _ _ _ _ _ _ _ _ _ _ _ _ _ (F0 m pc ls (.int n :: r.map (rl (zad B E))))
  refine W.anew hx hb hown (key (p1, .classLink own ix "CliffWater$Told") (by simp)) (key (p2, .arrayOver (.object "CliffWater$Told")) (by simp)) rfl hd rfl hn (by omega) (by rw [e1] at hrc; omega) (by rw [e2] at hrs; omega) fun cA' kA comp f1 f2 f3 f4 => ?_
  have hcA : cA' = cA 3 := by
    obtain ⟨_, _, _, _, _, f5⟩ := (hG.1.2 3 _ rfl).2
    exact Option.some.inj (f1.symm.trans f5)
  subst hcA
  generalize hH1 : H.push ({ cls := cA 3, slots := Array.replicate n.toNatClampNeg .null, vm := .none } : Cell) = H1
  have z1 : H1.size = H.size + 1 := by rw [← hH1, Array.size_push]
  have e1' : H1[H.size]? = some (arrV (cA 3) n.toNatClampNeg (fun _ => .null)) := by rw [← hH1, Array.getElem?_push_size, ← arrV_new]
  have o1 : ∀ q : Nat, q < H.size → H1[q]? = H[q]? := fun q hq => by rw [← hH1, Array.getElem?_push, if_neg (Nat.ne_of_lt hq)]
  have hfr : F0 m (pc + 3) ls (.ref H.size :: r.map (rl (zad B E))) = F0 m (pc + 3) ls ((Value.ref M.1.length :: r).map (rl (zad B E))) := by
    rw [List.map_cons]
    show _ = F0 m (pc + 3) ls (.ref (zad B E M.1.length) :: _)
    rw [zad, if_pos (by omega), hsz]
  refine W.eq hfr ?_
  refine K.app hR hl hS (one_at ?_) (by rw [z1]; rfl) o1 (by show M.1.length + 1 ≤ 1000; omega) rfl (by show _ = _ + (n.toNatClampNeg + 0); omega)
  rw [if_pos rfl, ent_ref (Or.inl rfl), Nat.add_zero, ← hsz]
  show H1[H.size]? = some (vp_cell _ _)
  rw [e1', vp_cell_q]
  congr 2
  funext j
  rw [rv_rf, List.getElem?_replicate]
  split <;> rfl
theorem c_ast (C : Ctx p R s m args meth c cc nL own nm Ts D B E cA X) (hd : decode cc pc = .ok (.aastore, 1)) (h : ast X pc 8 L st M = some x) (hR : Rel D (zad B E) B cA M H) (hl : lok (zad B E) ls nL L) (hS : va_S (fun q => B ≤ q) s.heap H locs) (K : Kont p l e R s m args below meth c cells slots Q nL D B E cA M x) : W p l e R s m args below meth c H locs cells slots Q (F0 m pc ls (st.map (rl (zad B E)))) := by
  obtain ⟨hx, hb, hml, hown, hts, hin, hG, hnm, -, -⟩ := C
  unfold ast at h
  split at h
  case h_2 => cases h
  rename_i w i a r
  split at h
  case h_2 => cases h
  rename_i t n rs t2 n2 rs2 hsh hsw
  split at h
  case isFalse => cases h
  rename_i hc
  cases h
  simp only [Bool.and_eq_true, beq_iff_eq, decide_eq_true_eq] at hc
  obtain ⟨rfl, hib, ⟨rfl, hir⟩, ha, hw⟩ := hc
  have hv := inb_in hib
  have he := wld_get (f := zad B E) (B := B) (cA := cA) hsh
  have hew := wld_get (f := zad B E) (B := B) (cA := cA) hsw
  rw [ent_ref (Or.inl rfl)] at he
  rw [ent_obj] at hew
  show W _ _ _ _ _ _ _ _ _ _ _ _ _ _ _ (F0 m pc ls (.ref (zad B E w) :: .int i :: .ref (zad B E a) :: r.map (rl (zad B E))))
  rw [show zad B E a = B + a from if_pos ha, show zad B E w = B + w from if_pos hw]
  have hlt : i.toNatClampNeg < n := Nat.not_le.mp fun q => hv (Or.inr q)
  have h0 : ¬ i < 0 := fun q => hv (Or.inl q)
  obtain ⟨r', hr', cellV, g1, g2, g3, -⟩ := hR.1 w _ hew
  have hcls := (hG.1.1 8 r' hr').2
  obtain ⟨kA, comp, k1, k2, k3, -⟩ := (hG.1.2 3 _ rfl).2
  have hr8 : r'.1 = "CliffWater$Told" := by cases hr'; rfl
  have hcomp : comp = D.1 8 := Option.some.inj (k3.symm.trans (by rw [← hr8]; exact hcls.1))
  subst hcomp
  obtain ⟨kC, hkC, -⟩ := hcls.2
  refine W.aast hx hb (hR.1 a _ he) (fun q h => by cases h) (fun h => by cases h) k1 k2 rfl hkC ⟨h0, by show _ < (arrV _ _ _).slots.size; rw [arrV_size]; exact hlt⟩ g1 (fun q h => by rw [g3] at h; cases h) (by rw [g2]; exact hkC) (by rw [g2]; exact va_assign hcls) rfl rfl hd fun H1 e1 z oq => ?_
  refine K.put (M' := (setR M.1 a i.toNatClampNeg (some w), M.2)) rfl hR hl hS (setR_len _ _ _ _) (by unfold szs; rw [setR_szs]) (setR_get hsh) (fun j hj => ⟨setR_ne hj, rfl⟩) ?_ z oq hR.2.2.sr
  rw [ent_ref (Or.inl rfl)]
  show H1[B + a]? = some (vp_cell _ _)
  rw [e1, vp_cell_q, vp_cell_q, arrV_store]
  congr 2
  funext q
  by_cases hq : q = i.toNatClampNeg
  · subst hq
    simp only [updV, if_pos rfl]
    rw [List.getElem?_set_self hir]
    show _ = Value.ref (zad B E w)
    rw [zad, if_pos hw]
    exact if_pos trivial
  · simp only [updV, if_neg hq]
    rw [List.getElem?_set_ne (Ne.symm hq)]
theorem c_gst {ix k : Nat} {tl : List Nat} (C : Ctx p R s m args meth c cc nL own nm Ts D B E cA X) (hok : okE own nm cc (pc, .getstatic ix, len, k :: tl, v) = true) (h : gst X pc k L st = some x) (hR : Rel D (zad B E) B cA M H) (hl : lok (zad B E) ls nL L) (hS : va_S (fun q => B ≤ q) s.heap H locs) (K : Kont p l e R s m args below meth c cells slots Q nL D B E cA M x) : W p l e R s m args below meth c H locs cells slots Q (F0 m pc ls (st.map (rl (zad B E)))) := by
  obtain ⟨hd, hln, hxd, hnd⟩ := okE_of hok
  have hlen : len = 3 := (hln.resolve_left (show ¬ 3 = 0 by decide)).symm
  subst hlen
  have C0 := C
  obtain ⟨hx, hb, hml, hown, hts, hin, hG, hnm, -, -⟩ := C
  obtain ⟨h1, h2, h3, h4, h5, h6, h7, h8, h9, h10, h11, h12⟩ := hG
  match tl, hxd, hnd with
  | [], hxd, hnd => cases hxd
  | [_], hxd, hnd => cases hxd
  | _ :: _ :: _ :: _, hxd, hnd => cases hxd
  | [n, p0], hxd, hnd =>
    have hxd' : k < 4 ∧ (n = 1 ↔ k < 2) := by
      have h9 : decide (k < 4 ∧ (n = 1 ↔ k < 2)) = true := hxd
      simpa using h9
    have hk4 : k = 0 ∨ k = 1 ∨ k = 2 ∨ k = 3 := by omega
    rcases hk4 with rfl | rfl | rfl | rfl
    · obtain rfl : n = 1 := hxd'.2.mpr (by omega)
      have hw := hnd _ (List.mem_singleton.mpr rfl)
      have hlk := C0.word hw.1 hw.2
      cases h
      have K' := K.here hR hS hl
      refine va_getsN hx hb h7 hS hown hlk (fun _ h9 => h9) hd ?_
      have e2 : rl (zad B E) (.ref 1001) = .ref (E 1001) := by show Value.ref (zad B E 1001) = _; rw [zad, if_neg (by omega)]
      rw [List.map_cons, e2] at K'
      exact K'
    · obtain rfl : n = 1 := hxd'.2.mpr (by omega)
      have hw := hnd _ (List.mem_singleton.mpr rfl)
      have hlk := C0.word hw.1 hw.2
      cases h
      have K' := K.here hR hS hl
      refine va_getsN hx hb h8 hS hown hlk (fun _ h9 => h9) hd ?_
      have e2 : rl (zad B E) (.ref 1002) = .ref (E 1002) := by show Value.ref (zad B E 1002) = _; rw [zad, if_neg (by omega)]
      rw [List.map_cons, e2] at K'
      exact K'
    · have hn1 : ¬ n = 1 := fun e => absurd (hxd'.2.mp e) (by omega)
      have hw := hnd (p0, .fieldLink own ix "java/lang/String" "COMPACT_STRINGS" "Z") (by
        show _ ∈ [((p0, if n = 1 then _ else _) : Nat × Jvm.Cond)]
        rw [if_neg hn1]
        exact List.mem_singleton.mpr rfl)
      have hlk := C0.word hw.1 hw.2
      cases h
      exact va_gets hx hb h9 hS hown hlk (fun _ h9 => h9) hd (K.here hR hS hl)
    · have hn1 : ¬ n = 1 := fun e => absurd (hxd'.2.mp e) (by omega)
      have hw := hnd (p0, .fieldLink own ix "jdk/internal/util/Preconditions" "SIOOBE_FORMATTER" "Ljava/util/function/BiFunction;") (by
        show _ ∈ [((p0, if n = 1 then _ else _) : Nat × Jvm.Cond)]
        rw [if_neg hn1]
        exact List.mem_singleton.mpr rfl)
      have hlk := C0.word hw.1 hw.2
      cases h
      have K' := K.here hR hS hl
      refine va_gets hx hb h10 hS hown hlk (fun _ h9 => h9) hd ?_
      have e2 : rl (zad B E) (if X.2.2 then .null else .ref 1100) = (if X.2.2 then .null else .ref (E 1100)) := by
        split
        · rfl
        · show Value.ref (zad B E 1100) = _; rw [zad, if_neg (by omega)]
      rw [List.map_cons, e2] at K'
      exact K'
end ZP
