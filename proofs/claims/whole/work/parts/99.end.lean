theorem vr_outer' (c : ClassId) (N h0 : Nat) : ∀ i : Nat, Jvm.Free.Multi.outerC c N h0 i = arrV c N (fun j => va_rf (if j < i then some (h0 + 1 + j) else none))
  | 0 => by
    show ({ cls := c, slots := Array.replicate N .null, vm := .none } : Cell) = _
    rw [arrV_new]
    refine congrArg (arrV c N) (funext fun j => ?_)
    simp [va_rf]
  | i + 1 => by
    show (Jvm.Free.Multi.outerC c N h0 i).setSlot i (.ref (h0 + 1 + i)) = _
    rw [vr_outer' c N h0 i, arrV_store]
    refine congrArg (arrV c N) (funext fun j => ?_)
    by_cases e : j = i
    · subst e
      simp [updV, va_rf]
    · by_cases h : j < i
      · simp [updV, e, h, Nat.lt_succ_of_lt h]
      · simp [updV, e, h, show ¬ j < i + 1 by omega]
theorem sum_rep (n k : Nat) : ((List.replicate n ((0, k, []) : Shp)).map (fun s => s.2.1)).sum = n * k := by
  rw [List.map_replicate, List.sum_replicate_nat]
theorem mna_all : Mna := by
  intro p l e R s m args below meth c H locs cells slots Q cc pc nL ls own nm Ts D B E cA X M L st ix len au v x C hok h hR hl hS hrc hrs K
  obtain ⟨hd, hln, hxd, hnd⟩ := okE_of hok
  have hlen : len = 4 := (hln.resolve_left (show ¬ 4 = 0 by decide)).symm
  subst hlen
  have C0 := C
  obtain ⟨hx, hb, hml, hown, hts, hin, hG, hnm, -, -⟩ := C
  obtain ⟨p1, p2, p3, rfl⟩ : ∃ p1 p2 p3, au = [p1, p2, p3] := by
    have : au.length = 3 ∧ 2 = 2 := by simpa [xd] using hxd
    match au, this.1 with
    | [p1, p2, p3], _ => exact ⟨p1, p2, p3, rfl⟩
  have key : ∀ q, q ∈ [((p1, .classLink own ix "[[I") : Nat × Jvm.Cond), (p2, .arrayOver (.array .int)), (p3, .arrayClass .int)] → q.2.before args s = true := by
    intro q hq
    have hw := hnd q hq
    exact C0.word hw.1 hw.2
  unfold newM at h
  split at h
  case h_2 => cases h
  rename_i k n r
  split at h
  case isFalse => cases h
  rename_i hc
  obtain ⟨hn, hk, hN, hK, hM⟩ := hc
  cases h
  generalize hss : ((4, n.toNatClampNeg, (List.range n.toNatClampNeg).map (fun i => some (M.1.length + 1 + i))) :: List.replicate n.toNatClampNeg (0, k.toNatClampNeg, []) : List Shp) = ss at *
  have hsl : ss.length = n.toNatClampNeg + 1 := by rw [← hss]; simp
  have hsz0 : szs (ss, M.2) = n.toNatClampNeg + n.toNatClampNeg * k.toNatClampNeg := by
    rw [← hss]
    show n.toNatClampNeg + ((List.replicate n.toNatClampNeg ((0, k.toNatClampNeg, []) : Shp)).map (fun s => s.2.1)).sum = _
    rw [sum_rep]
  have e1 : (apA M (some (.inl ss))).1.length = M.1.length + (n.toNatClampNeg + 1) := by show (M.1 ++ _).length = _; rw [List.length_append, hsl]
  have e2 : szs (apA M (some (.inl ss))) = szs M + (n.toNatClampNeg + n.toNatClampNeg * k.toNatClampNeg) := by show szs (M.1 ++ _, M.2) = _; rw [szs_app, hsz0]
  have hsz := hR.2.1
  show W _ _ _ _ _ _ _ _ _ _ _ _ _ _ _ (F0 m pc ls (.int k :: .int n :: r.map (rl (zad B E))))
  intro T hT Xs
  obtain ⟨vm₁, cA', comp, -, fA, fC, -, -, X', step⟩ := Xs.multianewarray2F hx (ty := .int) hown (key (p1, .classLink own ix "[[I") (by simp)) (key (p2, .arrayOver (.array .int)) (by simp)) (key (p3, .arrayClass .int) (by simp)) (g := F0 m pc ls (.int k :: .int n :: r.map (rl (zad B E)))) rfl (by rw [hb]; exact hd) rfl hn hk (by omega) (by show k.toNatClampNeg * 4 ≤ _; omega) (by omega) rfl rfl (by rw [e1] at hrc; omega) (by rw [e2] at hrs; omega)
  have c0 : comp = cA 0 := Option.some.inj (fC.symm.trans (hG.1.2 0 _ rfl).2)
  have c4 : cA' = cA 4 := Option.some.inj (fA.symm.trans (hG.1.2 4 _ rfl).2)
  subst c0
  subst c4
  generalize hF : Jvm.Free.Multi.fill (T.setVm vm₁) (cA 4) (cA 0) n.toNatClampNeg k.toNatClampNeg (defaultValue .int) n.toNatClampNeg = F at X' step
  have hTh : (T.setVm vm₁).heap = H := hT
  obtain ⟨f1, f2, -, -⟩ := Jvm.Free.Multi.fill_facts (T.setVm vm₁) (cA 4) (cA 0) n.toNatClampNeg k.toNatClampNeg (defaultValue .int) n.toNatClampNeg
  rw [hF, hTh] at f1 f2
  have hold : ∀ x : Nat, x < H.size → F.heap[x]? = H[x]? := fun x hx => by
    have := Jvm.Free.Multi.fill_old (T.setVm vm₁) (cA 4) (cA 0) n.toNatClampNeg k.toNatClampNeg (defaultValue .int) (a := x) (by rw [hTh]; exact hx) n.toNatClampNeg
    rw [hF, hTh] at this
    exact this
  have hrow : ∀ j : Nat, j < n.toNatClampNeg → F.heap[H.size + 1 + j]? = some (Jvm.Free.Multi.innerC (cA 0) k.toNatClampNeg (.int 0)) := fun j hj => by
    have := Jvm.Free.Multi.fill_inner (T.setVm vm₁) (cA 4) (cA 0) n.toNatClampNeg k.toNatClampNeg (defaultValue .int) n.toNatClampNeg j hj
    rw [hF, hTh] at this
    exact this
  rw [vr_outer'] at f2
  have hz0 : ∀ q, M.1.length ≤ q → ∀ j, M.2 q j = 0 := fun q hq j => hR.2.2.2.1 q hq j
  have hat : ∀ i s, ss[i]? = some s → va_at D zcl (B + (M.1.length + i), ent (zad B E) cA M.2 (M.1.length + i) s) F.heap := by
    intro i s' hs
    rw [← hss] at hs
    match i, hs with
    | 0, hs =>
      have hs' : s' = (4, n.toNatClampNeg, (List.range n.toNatClampNeg).map (fun i => some (M.1.length + 1 + i))) := by simpa using hs.symm
      subst hs'
      rw [ent_ref (Or.inr rfl), Nat.add_zero, ← hsz]
      show F.heap[H.size]? = some (vp_cell _ _)
      rw [f2, vp_cell_q]
      congr 2
      funext j
      congr 1
      rw [List.getElem?_map]
      by_cases hj : j < n.toNatClampNeg
      · rw [if_pos hj, List.getElem?_range hj]
        show some _ = some (zad B E _)
        rw [zad, if_pos (by omega), hsz]
        congr 1
        omega
      · rw [if_neg hj, List.getElem?_eq_none (by rw [List.length_range]; omega)]
        rfl
    | i + 1, hs =>
      have hs2 : (List.replicate n.toNatClampNeg ((0, k.toNatClampNeg, []) : Shp))[i]? = some s' := by simpa using hs
      have hi : i < n.toNatClampNeg := by
        have := (List.getElem?_eq_some_iff.mp hs2).1
        rwa [List.length_replicate] at this
      have hs' : s' = (0, k.toNatClampNeg, []) := by
        rw [List.getElem?_replicate, if_pos hi] at hs2
        exact (Option.some.inj hs2).symm
      subst hs'
      rw [ent_low (by decide)]
      have ha : B + (M.1.length + (i + 1)) = H.size + 1 + i := by omega
      rw [ha]
      show F.heap[H.size + 1 + i]? = some (vp_cell _ _)
      rw [hrow i hi, vp_cell_i]
      have hz1 : ∀ j, M.2 (M.1.length + (i + 1)) j = 0 := fun j => hz0 _ (by omega) j
      simp only [hz1]
      exact congrArg some (arrV_new (cA 0) k.toNatClampNeg (.int 0))
  have hfr : F0 m (pc + 4) ls (.ref H.size :: r.map (rl (zad B E))) = F0 m (pc + 4) ls ((Value.ref M.1.length :: r).map (rl (zad B E))) := by
    rw [List.map_cons]
    show _ = F0 m (pc + 4) ls (.ref (zad B E M.1.length) :: _)
    rw [zad, if_pos (by omega), hsz]
  obtain ⟨t, a1, b1⟩ := W.eq hfr (K.app hR hl hS hat (by rw [f1, hsl]; omega) hold (by rw [hsl]; omega) (cells' := cells + 1 + n.toNatClampNeg) (by rw [hsl]; omega) (slots' := slots + n.toNatClampNeg + n.toNatClampNeg * k.toNatClampNeg) (by rw [hsz0]; omega)) F rfl X'
  refine ⟨t, step t ?_, b1⟩
  have e : T.heap.size = H.size := by rw [hT]
  rw [e]
  exact a1
-- ===== YOUR PART ENDS =====
set_option maxHeartbeats 4000000 in
theorem lw_walk (l : Launch) (hflags : l.flags = flags0) (b : Addr) (xs : List Int32) : MetFree l x (headSpec (Jvm.Cond.code x code maxLocals ret :: tables_1) room_1) (lw_P b xs) (fun _ _ _ _ _ => True) lw_Q := by
  refine MetFree.of_bodyS (code := code) (maxLocals := maxLocals) (ret := ret) (by decide) ?_ ?_
  · intro args s m h hn
    obtain ⟨meth, c, h1, h2, h3, h4, h5, h6, -, -⟩ := Cond.code_spec hn (atoms_spec (ws := Jvm.Cond.code x code maxLocals ret :: tables_1) h _ List.mem_cons_self)
    exact ⟨meth, c, h1, h2, h3, h4, h5, h6⟩
  · intro p e s m args below meth c s₁ B hml0 hP _
    obtain ⟨rfl, hx, hbd, hgv⟩ := hP
    obtain ⟨scr, harrAt, hlist, hof, hsmall⟩ := hx
    obtain ⟨hcb, hkn, -, -⟩ := State.arrayAt?_spec harrAt
    have hown : s.vm.findClass R_law = some m.cls := findClass_of_methodNamed B.named
    have hts0 : ∀ c ∈ (Jvm.Cond.code x code maxLocals ret :: tables_1), c.before #[Value.ref b] s = true := atoms_spec (ws := Jvm.Cond.code x code maxLocals ret :: tables_1) B.pre
    have hts : ∀ w ∈ lw_tbl, w.before #[Value.ref b] s = true := k2_hts_sels lw_privs (fun w hw => hts0 w (List.mem_cons_of_mem _ hw)) lw_privs_ok
    have hml : c.maxLocals = 4 := B.maxLocals_eq (hts0 _ List.mem_cons_self)
    have X₀ : Stand p l e room_1 s m #[Value.ref b] below meth c s₁ [] 0 0 := Stand.of_body B
    have hh0 : s₁.heap = s.heap := by rw [B.state]; rfl
    have hsz : scr.slots.size = xs.length := by rw [← Array.length_toList, hlist, List.length_map]
    have hval : ∀ j : Nat, j < xs.length → scr.slots[j]? = some (.int (xs.getD j 0)) := fun j hj => by
      rw [← Array.getElem?_toList, hlist]
      simp [hj]
    have hbl : b < s.heap.size := (Array.getElem?_eq_some_iff.mp hcb).1
    have hX : va_X b xs.length (fun j => xs.getD j 0) s s.heap := ⟨scr, hcb, hof, hkn, hsz, hval⟩
    have K : W p l e room_1 s m #[Value.ref b] below meth c s₁.heap [] 0 0 (lw_Z below #[Value.ref b] s) (entryFrame m ([Value.ref b] : List Value).toArray 4) := by
      rw [hh0]
      exact whole_of mna_all law_d l hflags hbd ⟨B.exec, B.bytes, B.returns, hml, hown, hts, hX, hbl, B.notSynchronized, hgv⟩
    obtain ⟨t, a1, o, b1, b2, b3⟩ := K s₁ rfl X₀
    exact ⟨t, o, a1, b1, b2, b3⟩
theorem lw_pre_spec {args : Array Value} {s : State} (h : (Jvm.Cond.and given_1 narrow_1).before args s = true) (hr : rest_1_c.before args s = true) : ∃ (b : Addr) (xs : List Int32), lw_P b xs args s := by
  have hs := flat_of_before _ h
  have hq := flat_of_before _ hr
  have hc : (Cond.count 1).before args s = true := hs _ (by decide +kernel)
  have harr : (Cond.arrayOf (.arg 0) .int).before args s = true := hs _ (by decide +kernel)
  have hle : (Cond.le (.length (.arg 0)) (.int 3584)).before args s = true := hs _ (by decide +kernel)
  have hlen : (Cond.isInt (.length (.arg 0))).before args s = true := hq _ (by decide +kernel)
  have hall : (Cond.all (.arg 0) (.isInt (.elem (.arg 0) (.index 0)))).before args s = true := hq _ (by decide +kernel)
  obtain ⟨b, xs, hb, hx⟩ := State.ints_of_pre rfl harr hlen hall
  have hsm : xs.length < 2 ^ 31 := hx.choose_spec.2.2.2
  have hev : (Term.length (.arg 0)).eval args s none [] s = some (.int xs.length.toInt32) := hx.length_eval hb
  have hv := Cond.le_ints hev (show (Term.int 3584).eval args s none [] s = some (.int 3584) from rfl)
  have hd : xs.length.toInt32 ≤ 3584 := by
    simpa [Cond.before, Cond.holds, hv] using hle
  have hN : xs.length ≤ 3584 := (Int32.ofNat_le_ofNat hsm (by decide)).mp (show Int32.ofNat xs.length ≤ Int32.ofNat 3584 from hd)
  exact ⟨b, xs, Cond.one_arg hc (show args[0]? = some (.ref b) from hb), hx, hN, h⟩
theorem lw_comes (l : Launch) (hflags : l.flags = flags0) : Comes l x (Jvm.Cond.code x code maxLocals ret :: tables_1) room_1 (fun tb e args s => Calls_1 tb e args s ∧ rest_1 tb e args s ∧ Pre_1 tb e args s)
    (fun _ _ args s o t => lw_Q args s o t) := by
  intro p e ha hc hk s m args below hf hfit hheap happ hpre
  obtain ⟨b, xs, hP⟩ := lw_pre_spec hpre.2.2 hpre.2.1
  obtain ⟨k, o, h1, h2, h3, hQ⟩ := lw_walk l hflags b xs p e ha hc hk s m args below hf ((Spec.applies_iff_loose hf).mp happ).1 hP trivial
  exact ⟨k, o, h1, h2, h3, hQ⟩
theorem lw_frame {s t : State} {o : Outcome} {args : Array Value} (h : Framed s o t [] 600000 7302250) :
    Framed s o t (fieldLocs frame_1_writes args s ++ arrayLocs frame_1_arrays args s ++ staticLocs frame_1_statics s) 600000 7302250 := h
theorem lw_limb (L : Cond) (hL : ∀ (args : Array Value) (s t : State), L.after args s (.returned (some (.int 1))) t = true) :
    ArmFor flags0 classFile x code maxLocals ret World_1 tables_1 room_1 Calls_1 rest_1 Pre_1
      (fun tb e a s o t => postC L tb e a s o t ∧ Framed s o t (fieldLocs frame_1_writes a s ++ arrayLocs frame_1_arrays a s ++ staticLocs frame_1_statics s) 600000 7302250) := by
  intro l hflags _ _ p e ha hc hk s m args below hf hfit hheap happ hpre
  obtain ⟨k, o, h1, h2, h3, rfl, hF⟩ := lw_comes l hflags p e ha hc hk s m args below hf hfit hheap happ hpre
  exact ⟨k, _, h1, h2, h3, hL args s _, lw_frame hF⟩
theorem i_vc : Claimed_1_1 ∧ Claimed_1_2 := ⟨lw_limb limb_1_1 (fun args s t => by simp [limb_1_1, Cond.after, Cond.holds, Cond.value]), lw_limb limb_1_2 (fun args s t => Cond.after_iff.mpr (by
  first | (rw [show limb_1_2 = Cond.eq .result (.int 1) from rfl, Cond.eq_ints (x := 1) (y := 1) rfl rfl]; simp; done) | (simp [limb_1_2, Cond.value, Term.eval]; done)))⟩
