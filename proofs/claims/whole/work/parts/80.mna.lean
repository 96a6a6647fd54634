theorem vr_outer' (c : ClassId) (N h0 : Nat) : ∀ i : Nat, Jvm.Free.Multi.outerC c N h0 i = arrV c N (fun j => va_rf (if j < i then some (h0 + 1 + j) else none))
  | 0 => by
    show ({ cls := c, slots := Array.replicate N .null, vm := .none } : Cell) = _
    rw [arrV_new]
    refine congrArg (arrV c N) (funext fun j => ?_)
    simp [va_rf]
  | i + 1 => by
    show (Jvm.Free.Multi.outerC c N h0 i).setSlot i (.ref (h0 + 1 + i)) = _
    rw [vr_outer' c N h0 i, arrV_store]
    refine congrArg (arrV c N) (funext fun j => ?_)
    by_cases e : j = i
    · subst e
      simp [updV, va_rf]
    · by_cases h : j < i
      · simp [updV, e, h, Nat.lt_succ_of_lt h]
      · simp [updV, e, h, show ¬ j < i + 1 by omega]
theorem sum_rep (n k : Nat) : ((List.replicate n ((0, k, []) : Shp)).map (fun s => s.2.1)).sum = n * k := by
  rw [List.map_replicate, List.sum_replicate_nat]
theorem mna_all : Mna := by
  intro p l e R s m args below meth c H locs cells slots Q cc pc nL ls own nm Ts D B E cA X M L st ix len au v x C hok h hR hl hS hrc hrs K
  obtain ⟨hd, hln, hxd, hnd⟩ := okE_of hok
  have hlen : len = 4 := (hln.resolve_left (show ¬ 4 = 0 by decide)).symm
  subst hlen
  have C0 := C
  obtain ⟨hx, hb, hml, hown, hts, hin, hG, hnm, -, -⟩ := C
  obtain ⟨p1, p2, p3, rfl⟩ : ∃ p1 p2 p3, au = [p1, p2, p3] := by
    have : au.length = 3 ∧ 2 = 2 := by simpa [xd] using hxd
    match au, this.1 with
    | [p1, p2, p3], _ => exact ⟨p1, p2, p3, rfl⟩
  have key : ∀ q, q ∈ [((p1, .classLink own ix "[[I") : Nat × Jvm.Cond), (p2, .arrayOver (.array .int)), (p3, .arrayClass .int)] → q.2.before args s = true := by
    intro q hq
    have hw := hnd q hq
    exact C0.word hw.1 hw.2
  unfold newM at h
  split at h
  case h_2 => cases h
  rename_i k n r
  split at h
  case isFalse => cases h
  rename_i hc
  obtain ⟨hn, hk, hN, hK, hM⟩ := hc
  cases h
  generalize hss : ((4, n.toNatClampNeg, (List.range n.toNatClampNeg).map (fun i => some (M.1.length + 1 + i))) :: List.replicate n.toNatClampNeg (0, k.toNatClampNeg, []) : List Shp) = ss at *
  have hsl : ss.length = n.toNatClampNeg + 1 := by rw [← hss]; simp
  have hsz0 : szs (ss, M.2) = n.toNatClampNeg + n.toNatClampNeg * k.toNatClampNeg := by
    rw [← hss]
    show n.toNatClampNeg + ((List.replicate n.toNatClampNeg ((0, k.toNatClampNeg, []) : Shp)).map (fun s => s.2.1)).sum = _
    rw [sum_rep]
  have e1 : (apA M (some (.inl ss))).1.length = M.1.length + (n.toNatClampNeg + 1) := by show (M.1 ++ _).length = _; rw [List.length_append, hsl]
  have e2 : szs (apA M (some (.inl ss))) = szs M + (n.toNatClampNeg + n.toNatClampNeg * k.toNatClampNeg) := by show szs (M.1 ++ _, M.2) = _; rw [szs_app, hsz0]
  have hsz := hR.2.1
  show W _ _ _ _ _ _ _ _ _ _ _ _ _ _ _ (F0 m pc ls (.int k :: .int n :: r.map (rl (zad B E))))
  intro T hT Xs
  obtain ⟨vm₁, cA', comp, -, fA, fC, -, -, X', step⟩ := Xs.multianewarray2F hx (ty := .int) hown (key (p1, .classLink own ix "[[I") (by simp)) (key (p2, .arrayOver (.array .int)) (by simp)) (key (p3, .arrayClass .int) (by simp)) (g := F0 m pc ls (.int k :: .int n :: r.map (rl (zad B E)))) rfl (by rw [hb]; exact hd) rfl hn hk (by omega) (by show k.toNatClampNeg * 4 ≤ _; omega) (by omega) rfl rfl (by rw [e1] at hrc; omega) (by rw [e2] at hrs; omega)
  have c0 : comp = cA 0 := Option.some.inj (fC.symm.trans (hG.1.2 0 _ rfl).2)
  have c4 : cA' = cA 4 := Option.some.inj (fA.symm.trans (hG.1.2 4 _ rfl).2)
  subst c0
  subst c4
  generalize hF : Jvm.Free.Multi.fill (T.setVm vm₁) (cA 4) (cA 0) n.toNatClampNeg k.toNatClampNeg (defaultValue .int) n.toNatClampNeg = F at X' step
  have hTh : (T.setVm vm₁).heap = H := hT
  obtain ⟨f1, f2, -, -⟩ := Jvm.Free.Multi.fill_facts (T.setVm vm₁) (cA 4) (cA 0) n.toNatClampNeg k.toNatClampNeg (defaultValue .int) n.toNatClampNeg
  rw [hF, hTh] at f1 f2
  have hold : ∀ x : Nat, x < H.size → F.heap[x]? = H[x]? := fun x hx => by
    have := Jvm.Free.Multi.fill_old (T.setVm vm₁) (cA 4) (cA 0) n.toNatClampNeg k.toNatClampNeg (defaultValue .int) (a := x) (by rw [hTh]; exact hx) n.toNatClampNeg
    rw [hF, hTh] at this
    exact this
  have hrow : ∀ j : Nat, j < n.toNatClampNeg → F.heap[H.size + 1 + j]? = some (Jvm.Free.Multi.innerC (cA 0) k.toNatClampNeg (.int 0)) := fun j hj => by
    have := Jvm.Free.Multi.fill_inner (T.setVm vm₁) (cA 4) (cA 0) n.toNatClampNeg k.toNatClampNeg (defaultValue .int) n.toNatClampNeg j hj
    rw [hF, hTh] at this
    exact this
  rw [vr_outer'] at f2
  have hz0 : ∀ q, M.1.length ≤ q → ∀ j, M.2 q j = 0 := fun q hq j => hR.2.2.2.1 q hq j
  have hat : ∀ i s, ss[i]? = some s → va_at D zcl (B + (M.1.length + i), ent (zad B E) cA M.2 (M.1.length + i) s) F.heap := by
    intro i s' hs
    rw [← hss] at hs
    match i, hs with
    | 0, hs =>
      have hs' : s' = (4, n.toNatClampNeg, (List.range n.toNatClampNeg).map (fun i => some (M.1.length + 1 + i))) := by simpa using hs.symm
      subst hs'
      rw [ent_ref (Or.inr rfl), Nat.add_zero, ← hsz]
      show F.heap[H.size]? = some (vp_cell _ _)
      rw [f2, vp_cell_q]
      congr 2
      funext j
      congr 1
      rw [List.getElem?_map]
      by_cases hj : j < n.toNatClampNeg
      · rw [if_pos hj, List.getElem?_range hj]
        show some _ = some (zad B E _)
        rw [zad, if_pos (by omega), hsz]
        congr 1
        omega
      · rw [if_neg hj, List.getElem?_eq_none (by rw [List.length_range]; omega)]
        rfl
    | i + 1, hs =>
      have hs2 : (List.replicate n.toNatClampNeg ((0, k.toNatClampNeg, []) : Shp))[i]? = some s' := by simpa using hs
      have hi : i < n.toNatClampNeg := by
        have := (List.getElem?_eq_some_iff.mp hs2).1
        rwa [List.length_replicate] at this
      have hs' : s' = (0, k.toNatClampNeg, []) := by
        rw [List.getElem?_replicate, if_pos hi] at hs2
        exact (Option.some.inj hs2).symm
      subst hs'
      rw [ent_low (by decide)]
      have ha : B + (M.1.length + (i + 1)) = H.size + 1 + i := by omega
      rw [ha]
      show F.heap[H.size + 1 + i]? = some (vp_cell _ _)
      rw [hrow i hi, vp_cell_i]
      have hz1 : ∀ j, M.2 (M.1.length + (i + 1)) j = 0 := fun j => hz0 _ (by omega) j
      simp only [hz1]
      exact congrArg some (arrV_new (cA 0) k.toNatClampNeg (.int 0))
  have hfr : F0 m (pc + 4) ls (.ref H.size :: r.map (rl (zad B E))) = F0 m (pc + 4) ls ((Value.ref M.1.length :: r).map (rl (zad B E))) := by
    rw [List.map_cons]
    show _ = F0 m (pc + 4) ls (.ref (zad B E M.1.length) :: _)
    rw [zad, if_pos (by omega), hsz]
  obtain ⟨t, a1, b1⟩ := W.eq hfr (K.app hR hl hS hat (by rw [f1, hsl]; omega) hold (by rw [hsl]; omega) (cells' := cells + 1 + n.toNatClampNeg) (by rw [hsl]; omega) (slots' := slots + n.toNatClampNeg + n.toNatClampNeg * k.toNatClampNeg) (by rw [hsz0]; omega)) F rfl X'
  refine ⟨t, step t ?_, b1⟩
  have e : T.heap.size = H.size := by rw [hT]
  rw [e]
  exact a1
