section ZT
variable {p : Program} {l : Launch} {e : Env} {R : Room} {s : State} {m : MethodId} {args : Array Value} {below : List Frame} {meth : Method} {c : Code} {H : Heap} {locs : List Loc} {cells slots : Nat} {Q : State → Prop}
variable {cc : ByteArray} {pc nL len : Nat} {ls : Array Slot} {own nm : String} {Ts : List Jvm.Cond} {D : va_G} {B : Nat} {E : Nat → Nat} {cA : Nat → ClassId} {X : Xx} {M : Mm} {L : Lc} {st : List Value} {au : List Nat} {v : Int} {x : Nx} {en : En}
def Mcall (l : Launch) (D : va_G) (B : Nat) (E : Nat → Nat) (cA : Nat → ClassId) (X : Xx) (d : Nat) : Prop := ∀ mid as M o mi, mtl[mid]? = some mi → EvM zft mtl X d mid as M o → Met l mi.1 (wsz mi) (rmz d M o) (Pz D B E cA X as M) (Qz D B E cA o) (o.2.1.length - M.1.length) (szs o.2 - szs M) (fun q => B ≤ q)
/-- a call -/
theorem callW {d : Nat} {k : Nat × List Value × List Value} {o1 : Out} (C : Ctx p R s m args meth c cc nL own nm Ts D B E cA X) (hRd : d + 2 ≤ R.frames ∧ 60 * (d + 2) ≤ R.locals) (hok : okE own nm cc (pc, en) = true) (hM : Mcall l D B E cA X d) (hk : callOf X M en st = some k) (hev : EvM zft mtl X d k.1 k.2.1 M o1) (hR : Rel D (zad B E) B cA M H) (hl : lok (zad B E) ls nL L) (hS : va_S (fun q => B ≤ q) s.heap H locs) (hcc : cells + (o1.2.1.length - M.1.length) ≤ R.cells) (hss : slots + (szs o1.2 - szs M) ≤ R.slots)
    (kk : ∀ (H1 : Heap) (locs1 : List Loc), Rel D (zad B E) B cA o1.2 H1 → va_S (fun q => B ≤ q) s.heap H1 locs1 → W p l e R s m args below meth c H1 locs1 (cells + (o1.2.1.length - M.1.length)) (slots + (szs o1.2 - szs M)) Q (F0 m (pc + 3) ls ((o1.1.toList ++ k.2.2).map (rl (zad B E))))) : W p l e R s m args below meth c H locs cells slots Q (F0 m pc ls (st.map (rl (zad B E)))) := by
  obtain ⟨ins, len, au, v⟩ := en
  obtain ⟨hd, hln, hxd, hnd⟩ := okE_of hok
  have C0 := C
  obtain ⟨hx, hb, hml, hown, hts, hin, hG, hnm, hRf, hRl⟩ := C
  have CF : CallFix p m c cc nL s args Ts own := ⟨hx, hb, hml, hown, hts⟩
  unfold callOf at hk
  split at hk
  case h_2 => cases hk
  rename_i k0 mid n rc tl hau
  have hau' : au = k0 :: mid :: n :: rc :: tl := hau
  subst hau'
  split at hk
  case isFalse => cases hk
  rename_i hc
  obtain ⟨hk10, hn, h8, hlen3⟩ := hc
  have hlen3' : len = 3 := hlen3
  subst hlen3'
  have hr8 := cat8_room (f := zad B E) h8
  have hroom : 2 * (F0 m pc ls (st.map (rl (zad B E)))).monitorRoom + (((st.drop n).map (rl (zad B E))).map fun v => v.category).sum ≤ 8 := lv_room hr8
  have hlenT : (st.take n).length = n := by rw [List.length_take]; omega
  cases ins <;> try (simp only [reduceCtorEq] at hk; done)
  case invokestatic ix =>
    dsimp only at hk
    split at hk
    case isFalse => cases hk
    rename_i hk2
    cases hk
    match tl, hxd, hnd with
    | [], hxd, _ => simp [xd] at hxd
    | [_], hxd, _ =>
      have : k0 < 4 := by simpa [xd] using hxd
      omega
    | [_, _], hxd, _ => simp [xd] at hxd
    | _ :: _ :: _ :: _ :: _, hxd, _ => simp [xd] at hxd
    | [p1, p2, p3], hxd, hnd =>
      obtain ⟨mi, hmi, hlt, hkk, hpar⟩ := xd_S hxd
      have hmet := hM _ _ _ _ mi hmi hev
      have ok := okm_at hmi
      have hGI := GoodIn_wsz hmi hlt hin
      have key : ∀ q, q ∈ [((p1, if k0 = 14 then .methodLinkNest own ix mi.1 "CliffWater" else .methodLink own ix mi.1) : Nat × Jvm.Cond), (p2, .static mi.1), (p3, .initialized mi.1.cls)] → q.2.before args s = true := by
        intro q hq
        have hw := hnd q (by
          have h0 : nd own (pc, .invokestatic ix, 3, [k0, mid, n, rc, p1, p2, p3], v) = (match mtl[mid]? with | some mi => [((p1, if k0 = 14 then .methodLinkNest own ix mi.1 "CliffWater" else .methodLink own ix mi.1) : Nat × Jvm.Cond), (p2, .static mi.1), (p3, .initialized mi.1.cls)] | none => [(0, .initialized "")]) := by
            match k0, hk10 with
            | k + 4, _ => rfl
          rw [h0, hmi]
          exact hq)
        exact C0.word hw.1 hw.2
      have hini : (Jvm.Cond.initialized mi.1.cls).before args s = true := key (p3, .initialized mi.1.cls) (by simp)
      have hst : (Jvm.Cond.static mi.1).before args s = true := key (p2, .static mi.1) (by simp)
      have hlk := key (p1, if k0 = 14 then .methodLinkNest own ix mi.1 "CliffWater" else .methodLink own ix mi.1) (by simp)
      have hRm : (rmz d M o1).frames + 1 ≤ R.frames ∧ 8 + (mi.2.2.1 + 11) + (rmz d M o1).locals ≤ R.locals := ⟨hRd.1, by have := ok.2.2.2.1; show 8 + (mi.2.2.1 + 11) + 60 * (d + 1) ≤ _; omega⟩
      have hp : PreS s H (Pz D B E cA X (st.take n).reverse M) ((st.take n).reverse.map (rl (zad B E))) := ⟨Pz_blind, Pz_at hG hR hS⟩
      have hargs : (((st.take n).reverse).map (rl (zad B E))).length = n := by rw [List.length_map, List.length_reverse, hlenT]
      have hstk := split_args (st := st) (n := n) (B := B) (E := E) rfl
      rcases hkk with rfl | rfl
      · exact callz (va_runS CF hmet ⟨callB_of n hts hGI rfl rfl rfl hini hlk ⟨ok.2.2.1.1, ok.2.2.1.2, hpar⟩ hRm, hst⟩ hp rfl hargs hl.1 hstk hroom hd ⟨hcc, hss⟩) hS kk
      · exact callz (va_runSN CF hmet ⟨va_cnB n hts hGI rfl rfl rfl (va_Nw.of rfl hlk) hini ⟨ok.2.2.1.1, ok.2.2.1.2, hpar⟩ hRm, hst, trivial⟩ hp rfl hargs hl.1 hstk hroom hd ⟨hcc, hss⟩) hS kk
  case invokespecial ix =>
    dsimp only at hk
    split at hk
    case isFalse => cases hk
    rename_i hk2
    split at hk
    case h_2 => cases hk
    rename_i b as has
    cases hk
    match tl, hxd, hnd with
    | [], hxd, _ =>
      match k0, hxd, hk10 with
      | 0, _, h => omega
      | k + 1, hxd, _ => cases hxd
    | [_], hxd, _ =>
      match k0, hxd, hk10 with
      | k + 1, hxd, _ => cases hxd
    | [_, _], hxd, _ =>
      match k0, hxd, hk10 with
      | k + 1, hxd, _ => cases hxd
    | _ :: _ :: _ :: _ :: _, hxd, _ =>
      match k0, hxd, hk10 with
      | k + 1, hxd, _ => cases hxd
    | [p1, p2, p3], hxd, hnd =>
      obtain ⟨mi, hmi, hlt, hkk, hname, hpar, hret⟩ := xd_I hxd
      have hmet := hM _ _ _ _ mi hmi hev
      have ok := okm_at hmi
      have hGI := GoodIn_wsz hmi hlt hin
      have key : ∀ q, q ∈ [((p1, if k0 = 15 then .methodLinkNest own ix mi.1 "CliffWater" else .methodLink own ix mi.1) : Nat × Jvm.Cond), (p2, .instanceMethod mi.1), (p3, .initialized mi.1.cls)] → q.2.before args s = true := by
        intro q hq
        have hw := hnd q (by
          have h0 : nd own (pc, .invokespecial ix, 3, [k0, mid, n, rc, p1, p2, p3], v) = (match mtl[mid]? with | some mi => [((p1, if k0 = 15 then .methodLinkNest own ix mi.1 "CliffWater" else .methodLink own ix mi.1) : Nat × Jvm.Cond), (p2, .instanceMethod mi.1), (p3, .initialized mi.1.cls)] | none => [(0, .initialized "")]) := by
            match k0, hk10 with
            | k + 1, _ => rfl
          rw [h0, hmi]
          exact hq)
        exact C0.word hw.1 hw.2
      have hini : (Jvm.Cond.initialized mi.1.cls).before args s = true := key (p3, .initialized mi.1.cls) (by simp)
      have hst : (Jvm.Cond.instanceMethod mi.1).before args s = true := key (p2, .instanceMethod mi.1) (by simp)
      have hlk := key (p1, if k0 = 15 then .methodLinkNest own ix mi.1 "CliffWater" else .methodLink own ix mi.1) (by simp)
      have hRm : (rmz d M o1).frames + 1 ≤ R.frames ∧ 8 + (mi.2.2.1 + 11) + (rmz d M o1).locals ≤ R.locals := ⟨hRd.1, by have := ok.2.2.2.1; show 8 + (mi.2.2.1 + 11) + 60 * (d + 1) ≤ _; omega⟩
      have hp : PreS s H (Pz D B E cA X (.ref b :: as) M) (.ref (zad B E b) :: as.map (rl (zad B E))) := ⟨Pz_blind, Pz_at (as := .ref b :: as) hG hR hS⟩
      have hla : as.length + 1 = n := by have h7 := congrArg List.length has; rw [List.length_reverse, hlenT, List.length_cons] at h7; omega
      have hargs : (as.map (rl (zad B E))).length = n - 1 := by rw [List.length_map]; omega
      have hpar' : (parseMethodDescriptor mi.1.desc).map (fun d => d.parameters.length) = some (n - 1) := by
        cases hq : parseMethodDescriptor mi.1.desc with
        | none => rw [hq] at hpar; cases hpar
        | some dd => rw [hq] at hpar; cases hpar; rfl
      have hstk : st.map (rl (zad B E)) = (as.map (rl (zad B E))).reverse ++ .ref (zad B E b) :: (st.drop n).map (rl (zad B E)) := by
        have h0 := split_args (st := st) (n := n) (B := B) (E := E) has
        rw [h0]
        simp [rl]
      have hcode : wsz mi = .code mi.1 mi.2.1 mi.2.2.1 none :: UNI := by unfold wsz; rw [hret]
      rcases hkk with rfl | rfl
      · exact callz (va_runI CF hmet ⟨callB_of (n - 1) hts hGI hcode rfl rfl hini hlk ⟨ok.2.2.1.1, ok.2.2.1.2, hpar'⟩ hRm, hname, hst⟩ hp rfl hargs hl.1 hstk hroom hd ⟨hcc, hss⟩) hS kk
      · exact callz (va_runIN CF hmet ⟨va_cnB (n - 1) hts hGI hcode rfl rfl (va_Nw.of rfl hlk) hini ⟨ok.2.2.1.1, ok.2.2.1.2, hpar'⟩ hRm, hname, hst⟩ hp rfl hargs hl.1 hstk hroom hd ⟨hcc, hss⟩) hS kk
  case invokevirtual ix =>
    dsimp only at hk
    split at hk
    case isFalse => cases hk
    rename_i hk2
    split at hk
    case h_2 => cases hk
    rename_i b as has
    split at hk
    case h_2 => cases hk
    rename_i t nn rs hsh
    split at hk
    case isFalse => cases hk
    rename_i ht
    cases hk
    match tl, hxd, hnd with
    | [], hxd, _ => cases hxd
    | [_], hxd, _ => cases hxd
    | [_, _], hxd, _ => cases hxd
    | [_, _, _], hxd, _ => cases hxd
    | _ :: _ :: _ :: _ :: _ :: _, hxd, _ => cases hxd
    | [p1, p2, p3, p4], hxd, hnd =>
      obtain ⟨mi, hmi, hlt, hkk, hcls, hpar⟩ := xd_V hxd
      have hmet := hM _ _ _ _ mi hmi hev
      have ok := okm_at hmi
      have hGI := GoodIn_wsz hmi hlt hin
      have key : ∀ q, q ∈ [((p1, if k0 = 13 then .methodLinkNest own ix mi.1 "CliffWater" else .methodLink own ix mi.1) : Nat × Jvm.Cond), (p2, .instanceMethod mi.1), (p3, .selects mi.1.cls mi.1 mi.1), (p4, .initialized mi.1.cls)] → q.2.before args s = true := by
        intro q hq
        have hw := hnd q (by
          have h0 : nd own (pc, .invokevirtual ix, 3, [k0, mid, n, rc, p1, p2, p3, p4], v) = (match mtl[mid]? with | some mi => [((p1, if k0 = 13 then .methodLinkNest own ix mi.1 "CliffWater" else .methodLink own ix mi.1) : Nat × Jvm.Cond), (p2, .instanceMethod mi.1), (p3, .selects mi.1.cls mi.1 mi.1), (p4, .initialized mi.1.cls)] | none => [(0, .initialized "")]) := rfl
          rw [h0, hmi]
          exact hq)
        exact C0.word hw.1 hw.2
      have hini : (Jvm.Cond.initialized mi.1.cls).before args s = true := key (p4, .initialized mi.1.cls) (by simp)
      have hst : (Jvm.Cond.instanceMethod mi.1).before args s = true := key (p2, .instanceMethod mi.1) (by simp)
      have hsel : (Jvm.Cond.selects mi.1.cls mi.1 mi.1).before args s = true := key (p3, .selects mi.1.cls mi.1 mi.1) (by simp)
      have hlk := key (p1, if k0 = 13 then .methodLinkNest own ix mi.1 "CliffWater" else .methodLink own ix mi.1) (by simp)
      have hRm : (rmz d M o1).frames + 1 ≤ R.frames ∧ 8 + (mi.2.2.1 + 11) + (rmz d M o1).locals ≤ R.locals := ⟨hRd.1, by have := ok.2.2.2.1; show 8 + (mi.2.2.1 + 11) + 60 * (d + 1) ≤ _; omega⟩
      have hp : PreV s H mi.1.cls (zad B E b) (Pz D B E cA X (.ref b :: as) M) (as.map (rl (zad B E))) := ⟨Pz_blind, recvz hG hR hS hsh ht hcls, Pz_at (as := .ref b :: as) hG hR hS⟩
      have hla : as.length + 1 = n := by have h7 := congrArg List.length has; rw [List.length_reverse, hlenT, List.length_cons] at h7; omega
      have hargs : (as.map (rl (zad B E))).length = n - 1 := by rw [List.length_map]; omega
      have hpar' : (parseMethodDescriptor mi.1.desc).map (fun d => d.parameters.length) = some (n - 1) := by
        cases hq : parseMethodDescriptor mi.1.desc with
        | none => rw [hq] at hpar; cases hpar
        | some dd => rw [hq] at hpar; cases hpar; rfl
      have hstk : st.map (rl (zad B E)) = (as.map (rl (zad B E))).reverse ++ .ref (zad B E b) :: (st.drop n).map (rl (zad B E)) := by
        have h0 := split_args (st := st) (n := n) (B := B) (E := E) has
        rw [h0]
        simp [rl]
      rcases hkk with rfl | rfl
      · exact callz (va_runV CF hmet ⟨callB_of (n - 1) hts hGI rfl rfl rfl hini hlk ⟨ok.2.2.1.1, ok.2.2.1.2, hpar'⟩ hRm, hst, hsel⟩ hp rfl hargs hl.1 hstk hroom hd ⟨hcc, hss⟩) hS kk
      · exact callz (va_runVN CF hmet ⟨va_cnB (n - 1) hts hGI rfl rfl rfl (va_Nw.of rfl hlk) hini ⟨ok.2.2.1.1, ok.2.2.1.2, hpar'⟩ hRm, hst, hsel⟩ hp rfl hargs hl.1 hstk hroom hd ⟨hcc, hss⟩) hS kk
/-- a whole body -/
theorem bodyW {d : Nat} {rt : Option FieldType} {cd : Nat → Option En} {o : Out} (hMn : Mna) (C : Ctx p R s m args meth c cc nL own nm Ts D B E cA X) (hRd : d + 2 ≤ R.frames ∧ 60 * (d + 2) ≤ R.locals) (hM : Mcall l D B E cA X d) (hcd : ∀ pc en, cd pc = some en → okE own nm cc (pc, en) = true)
    (hret : ∀ (pc : Nat) (en : En) (st : List Value) (M : Mm) (v : Option Value) (H : Heap) (ls : Array Slot) (locs : List Loc) (cells slots : Nat), cd pc = some en → retOf rt en.1 st = some v → o = (v, M) → Rel D (zad B E) B cA M H → va_S (fun q => B ≤ q) s.heap H locs → cells ≤ R.cells → slots ≤ R.slots → W p l e R s m args below meth c H locs cells slots Q (F0 m pc ls (st.map (rl (zad B E))))) :
    ∀ (n pc : Nat) (L : Lc) (st : List Value) (M : Mm), EvF zft X (EvM zft mtl X d) rt cd o n pc L st M → ∀ (H : Heap) (ls : Array Slot) (locs : List Loc) (cells slots : Nat), Rel D (zad B E) B cA M H → lok (zad B E) ls nL L → va_S (fun q => B ≤ q) s.heap H locs → cells + (o.2.1.length - M.1.length) ≤ R.cells → slots + (szs o.2 - szs M) ≤ R.slots → W p l e R s m args below meth c H locs cells slots Q (F0 m pc ls (st.map (rl (zad B E)))) := by
  intro n
  induction n with
  | zero => intro pc L st M h; exact h.elim
  | succ n ih =>
    intro pc L st M h H ls locs cells slots hR hl hS hc hs
    rcases h with ⟨L', hw, h⟩ | ⟨en, he, ⟨x, hx, h⟩ | ⟨v, hv, ho⟩ | ⟨k, hk, o1, h1, h2⟩⟩
    · exact ih pc L' st M h H ls locs cells slots hR (lok_wk hw hl) hS hc hs
    · have m1 := EvF_mono (EvM_mono d) _ _ _ _ _ h
      have m2 := apA_mono M x.2.2.2
      refine stepW hMn C (hcd pc en he) hx hR hl hS (by omega) (by omega) (by omega) (by omega) ?_
      intro H' ls' locs' cells' slots' hR' hl' hS' hc' hs'
      exact ih _ _ _ _ h H' ls' locs' cells' slots' hR' hl' hS' (by omega) (by omega)
    · exact hret pc en st M v H ls locs cells slots he hv ho hR hS (by omega) (by omega)
    · have m1 := EvM_mono d _ _ _ _ h1
      have m2 := EvF_mono (EvM_mono d) _ _ _ _ _ h2
      refine callW C hRd (hcd pc en he) hM hk h1 hR hl hS (by omega) (by omega) ?_
      intro H1 locs1 hR1 hS1
      exact ih _ _ _ _ h2 H1 ls locs1 _ _ hR1 hl hS1 (by omega) (by omega)
theorem Mcall_all (l : Launch) (hMn : Mna) : ∀ d, Mcall l D B E cA X d := by
  intro d
  induction d with
  | zero => intro mid as M o mi hm h; exact h.elim
  | succ d ih =>
    intro mid as M o mi hm h
    obtain ⟨mi', hm', hlen, n, h⟩ := h
    cases hm.symm.trans hm'
    have ok := okm_at hm
    refine Met.ofW (cc := mi.2.1) (maxL := mi.2.2.1) (ret := mi.2.2.2.1) ok.2.1 rfl ?_
    intro p e s m args below meth c s₁ B' hml hv
    obtain ⟨rfl, hG, hR⟩ := hv
    have hts := atoms_spec (ws := wsz mi) B'.pre
    have hown : s.vm.findClass mi.1.cls = some m.cls := findClass_of_methodNamed B'.named
    have hnm : meth.name = mi.1.name := (name_of_methodNamed B'.named B'.method).1
    have hlocks := B'.notSynchronized
    have hr := B'.returns
    have C : Ctx p (rmz (d + 1) M o) s m (as.map (rl (zad B E))).toArray meth c mi.2.1 mi.2.2.1 mi.1.cls mi.1.name (wsz mi) D B E cA X := ⟨B'.exec, B'.bytes, hml, hown, hts, fun w hw hg => List.mem_cons_of_mem _ (UNI_mem hw hg), hG, hnm, by show 1 ≤ d + 1 + 1; omega, by show 60 ≤ 60 * (d + 1 + 1); omega⟩
    rw [lg_entry_eq]
    have hl := lok_init (f := zad B E) hlen
    refine bodyW (R := rmz (d + 1) M o) hMn C ⟨by show d + 2 ≤ d + 1 + 1; omega, by show 60 * (d + 2) ≤ 60 * (d + 1 + 1); omega⟩ ih (fun pc en he => ok.1 _ (lkp_mem _ _ _ he)) ?_ n 0 _ [] M h s.heap _ [] 0 0 hR hl va_S.rf (by show 0 + _ ≤ o.2.1.length - M.1.length; omega) (by show 0 + _ ≤ szs o.2 - szs M; omega)
    intro pc en st M1 v H ls locs cells slots he hv ho hR1 hS1 hc1 hs1
    obtain ⟨ins, len, au, vv⟩ := en
    obtain ⟨hd, hln, -, -⟩ := okE_of (ok.1 _ (lkp_mem _ _ _ he))
    dsimp only at hv
    subst ho
    have hq : ∀ t : State, t.heap = H → Qz D B E cA (v, M1) (as.map (rl (zad B E))).toArray s (.returned (v.map (rl (zad B E)))) t := fun t ht => ⟨rfl, by rw [ht]; exact hR1, hS1.F ht⟩
    refine W.widen hc1 hs1 ?_
    unfold retOf at hv
    split at hv
    · rename_i hrt
      cases hv
      have hl1 := hln.resolve_left (show ¬ lnO .return_ = 0 by decide)
      rw [← hl1] at hd
      exact W.vret B'.exec B'.bytes (by rw [hr]; exact hrt) (fun t ht _ => hq t ht) hS1.2.2 hd
    · rename_i ty y hrt
      split at hv
      · rename_i hn
        cases hv
        have hl1 := hln.resolve_left (show ¬ lnO .ireturn = 0 by decide)
        rw [← hl1] at hd
        exact W.zret B'.exec B'.bytes (by rw [hr]; exact hrt) hn (fun t ht _ => hq t ht) hS1.2.2 hd
      · cases hv
    · rename_i y hrt
      cases hv
      have hl1 := hln.resolve_left (show ¬ lnO .lreturn = 0 by decide)
      rw [← hl1] at hd
      exact W.lret B'.exec B'.bytes (by rw [hr]; exact hrt) (fun t ht _ => hq t ht) hS1.2.2 hd
    · rename_i nn a hrt
      cases hv
      have hl1 := hln.resolve_left (show ¬ lnO .areturn = 0 by decide)
      rw [← hl1] at hd
      exact W.aret B'.exec B'.bytes (by rw [hr]; exact hrt) (Or.inl ⟨_, rfl⟩) (Or.inr ⟨_, rfl⟩) (fun t ht _ => hq t ht) hS1.2.2 hd
    · cases hv
end ZT
