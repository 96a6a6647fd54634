section ZN
variable {p : Program} {l : Launch} {e : Env} {R : Room} {s : State} {m : MethodId} {args : Array Value} {below : List Frame} {meth : Method} {c : Code} {H : Heap} {locs : List Loc} {cells slots : Nat} {Q : State → Prop}
variable {cc : ByteArray} {pc nL len : Nat} {ls : Array Slot} {own nm : String} {Ts : List Jvm.Cond} {D : va_G} {B : Nat} {E : Nat → Nat} {cA : Nat → ClassId} {X : Xx} {M : Mm} {L : Lc} {st : List Value} {au : List Nat} {v : Int} {x : Nx}
/-- behind a store into cell a -/
theorem Kont.put {M' : Mm} {a k : Nat} {s' : Shp} {H1 : Heap} {act : Act} (K : Kont p l e R s m args below meth c cells slots Q nL D B E cA M (pc, L, st, act)) (hM : apA M act = M') (hR : Rel D (zad B E) B cA M H) (hl : lok (zad B E) ls nL L) (hS : va_S (fun q => B ≤ q) s.heap H locs) (hlen : M'.1.length = M.1.length) (hsz : szs M' = szs M) (hs : M'.1[a]? = some s') (ho : ∀ j, j ≠ a → M'.1[j]? = M.1[j]? ∧ M'.2 j = M.2 j) (hat : va_at D zcl (B + a, ent (zad B E) cA M'.2 a s') H1) (z : H1.size = H.size) (oq : ∀ q : Nat, q ≠ B + a → H1[q]? = H[q]?) (hw : Wf M') : W p l e R s m args below meth c H1 (locs ++ [⟨B + a, k⟩]) cells slots Q (F0 m pc ls (st.map (rl (zad B E)))) := by
  subst hM
  exact K H1 ls _ cells slots (hR.put hlen hs ho hat z oq hw) hl (hS.put z oq (Nat.le_add_right B a)) (by show _ = _ + ((apA M act).1.length - _); rw [hlen]; omega) (by show _ = _ + (szs (apA M act) - _); rw [hsz]; omega)
theorem setR_szs {l : List Shp} {c k : Nat} {r : Option Nat} : (setR l c k r).map (fun s => s.2.1) = l.map (fun s => s.2.1) := by
  apply List.ext_getElem?
  intro j
  rw [List.getElem?_map, List.getElem?_map]
  by_cases e : j = c
  · subst e
    cases h : l[j]? with
    | none => unfold setR; rw [h]; simp only [h]
    | some s => rw [setR_get h]; rfl
  · rw [setR_ne e]
theorem c_put {ix : Nat} (C : Ctx p R s m args meth c cc nL own nm Ts D B E cA X) (hok : okE own nm cc (pc, .putfield ix, len, au, v) = true) (h : pfd zft X pc au L st M = some x) (hR : Rel D (zad B E) B cA M H) (hl : lok (zad B E) ls nL L) (hS : va_S (fun q => B ≤ q) s.heap H locs) (K : Kont p l e R s m args below meth c cells slots Q nL D B E cA M x) : W p l e R s m args below meth c H locs cells slots Q (F0 m pc ls (st.map (rl (zad B E)))) := by
  obtain ⟨hd, hln, hxd, hnd⟩ := okE_of hok
  have hlen : len = 3 := (hln.resolve_left (show ¬ 3 = 0 by decide)).symm
  subst hlen
  have C0 := C
  obtain ⟨hx, hb, hml, hown, hts, hin, hG, hnm, -, -⟩ := C
  unfold pfd at h
  split at h
  case h_2 => cases h
  rename_i ci k tl val a r
  split at h
  case h_2 => cases h
  rename_i t n rs hsh
  split at h
  case isFalse => cases h
  rename_i hc
  obtain ⟨rfl, hk, ha⟩ := hc
  obtain ⟨p0, rfl⟩ : ∃ p0, tl = [p0] := by
    match tl, hxd with
    | [p0], _ => exact ⟨p0, rfl⟩
    | [], hxd => cases hxd
    | _ :: _ :: _, hxd => cases hxd
  have hxd' : (match zcl[ci]? with | some (C, T, N) => decide (k < N) && (!(T k).2.2.2 || (decide (nm = "<init>") && decide ((T k).1 = own))) | none => false) = true := hxd
  cases hz : zcl[ci]? with
  | none => rw [hz] at hxd'; cases hxd'
  | some q =>
    obtain ⟨Cn, T, N⟩ := q
    rw [hz] at hxd'
    simp only [Bool.and_eq_true, decide_eq_true_eq, Bool.or_eq_true, Bool.not_eq_true'] at hxd'
    obtain ⟨hkN, hfin⟩ := hxd'
    have Z := zok_all hz
    have hw := hnd (p0, .fieldLink own ix Cn (T k).2.1 (T k).2.2.1) (by
      show _ ∈ (match zcl[ci]? with | some (C, T, _) => _ | none => _ : List (Nat × Jvm.Cond))
      rw [hz]
      exact List.mem_singleton.mpr rfl)
    have hlink := C0.word hw.1 hw.2
    have he := wld_get (f := zad B E) (B := B) (cA := cA) hsh
    rw [ent_obj] at he
    have hinT : ∀ w ∈ u_ws Cn T N, w ∈ Ts := fun w hw => hin w (Z.1 w hw).1 (Z.1 w hw).2
    have hap := va_apart (own := own) (s := s) (args := args) hts hinT _ Z.2.1 Z.2.2.1 hG.1 hz
    obtain ⟨r', h1, cell, q1, q2, q3, q4⟩ := hR.1 a _ he
    have hr : r' = (Cn, T, N) := Option.some.inj (h1.symm.trans hz)
    subst hr
    obtain ⟨hSl, hfc, kC, hkC, hkind⟩ := hG.1.1 ci _ hz
    obtain ⟨cf, kf, fi, fd, hi, hsl⟩ := hSl k hkN
    have hlay := hts _ (hinT _ (u_in_lay hkN))
    have hst := (u_facts hfc hkC (u_lays hts hinT hkN) hi).1
    have hsame : s.fieldFound? Cn (T k).2.1 (T k).2.2.1 = some (cf, kf, fi, fd) := by have := hi; rw [Z.2.2.2.2 k hkN] at this; exact this
    have main : ∀ (w : Value) (M' : Mm) (act : Act), narrow (zty.getD ci zt0 k) w = w → fits (zty.getD ci zt0 k) w = true → apA M act = M' → M'.1.length = M.1.length → szs M' = szs M → (∃ rs', M'.1[a]? = some (10 + ci, n, rs') ∧ ((List.range n).map (fun k => if fty zft ci k = 2 then rl (zad B E) (rv rs[k]?) else .int (M.2 a k))).set k w = (List.range n).map (fun k => if fty zft ci k = 2 then rl (zad B E) (rv rs'[k]?) else .int (M'.2 a k))) → (∀ j, j ≠ a → M'.1[j]? = M.1[j]? ∧ M'.2 j = M.2 j) → Wf M' → Kont p l e R s m args below meth c cells slots Q nL D B E cA M (pc + 3, L, r, act) → W p l e R s m args below meth c H locs cells slots Q (F0 m pc ls (w :: .ref (B + a) :: r.map (rl (zad B E)))) := by
      intro w M' act hn hfit hM hlen hsz ⟨rs', hs', hfs⟩ ho hwf K'
      have fin : ∀ H' : Heap, H'[B + a]? = some (cell.setSlot fd.slot w) → H'.size = H.size → (∀ q, q ≠ B + a → H'[q]? = H[q]?) → W p l e R s m args below meth c H' (locs ++ [⟨B + a, fd.slot⟩]) cells slots Q (F0 m (pc + 3) ls (r.map (rl (zad B E)))) := by
        intro H' e1 e2 e3
        refine K'.put hM hR hl hS hlen hsz hs' ho ?_ e2 e3 hwf
        rw [ent_obj, ← hfs]
        rw [hsl] at e1
        exact ⟨_, hz, t_OB.to (V := updV (vp_V _) k w) ⟨_, e1, q2, q3, t_set q4 hap hkN w⟩ (fun j _ => vp_updV_set (by simpa using hk) w j)⟩
      have hlt : fd.slot < cell.slots.size := by rw [hsl]; exact k2_hasslot (q4 k hkN)
      unfold u_lay at hlay
      by_cases hf : (T k).2.2.2 = true
      · rw [if_pos hf] at hlay
        have hf2 := hfin.resolve_left (by rw [hf]; decide)
        have hcf : m.cls = cf := by
          obtain ⟨_, _, c', _, _, _, -, -, hf', -, -, -, hown2, -⟩ := Cond.laysFinal_spec hlay
          have e1 : c' = cf := by have := hi.symm.trans hf'; simp at this; exact this.1.symm
          rw [hf2.2] at hown2
          rw [← e1]; exact Option.some.inj (hown.symm.trans hown2)
        have h6 := u_fits hfc hkC hkind (Or.inr hlay) hi (Z.2.1 k hkN) hn hfit
        exact W.putFinK hx hb hown hlink hsame hst hcf (hnm.trans hf2.1) (by rw [q2]; exact h6) q1 q3 hlt rfl rfl hd fin
      · rw [if_neg hf] at hlay
        have h6 := u_store hfc hkC hkind hlay hi (Z.2.1 k hkN) hn hfit
        exact W.putK hx hb (f := fd) ⟨hown, hlink, ⟨_, _, _, hsame⟩, hst⟩ (by rw [q2]; exact h6) q1 q3 hlt rfl rfl hd fin
    have har : zad B E a = B + a := if_pos ha
    have hal := (List.getElem?_eq_some_iff.mp hsh).1
    split at h
    · rename_i y
      split at h
      case isFalse => cases h
      rename_i hty
      cases h
      show W _ _ _ _ _ _ _ _ _ _ _ _ _ _ _ (F0 m pc ls (.int y :: .ref (zad B E a) :: r.map (rl (zad B E))))
      rw [har]
      have hne : ¬ fty zft ci k = 2 := by omega
      have hnf : narrow (zty.getD ci zt0 k) (.int y) = .int y ∧ fits (zty.getD ci zt0 k) (.int y) = true := by
        rcases Z.2.2.2.1 k hkN with ⟨h1, h2⟩ | ⟨h1, h2⟩ | ⟨h1, h2⟩
        · rw [h2]; exact ⟨rfl, rfl⟩
        · have h01 := (hty.resolve_left (by rw [h1]; decide)).2
          rw [h2]
          rcases h01 with rfl | rfl <;> exact ⟨by decide +kernel, by decide +kernel⟩
        · exact absurd h1 hne
      refine main (.int y) (M.1, up2 M.2 a k y) _ hnf.1 hnf.2 rfl rfl rfl ⟨rs, hsh, mapr_set ?_ ?_⟩ (fun j hj => ⟨rfl, up2_ne hj⟩) (hR.2.2.wr hsh (fun e => by omega) (fun e => by omega)) K
      · rw [if_neg hne]; simp [up2]
      · intro j hj
        have : up2 M.2 a k y a j = M.2 a j := by simp [up2, hj]
        show (if _ then _ else Value.int (up2 M.2 a k y a j)) = _
        rw [this]
    · rename_i b
      split at h
      case isFalse => cases h
      rename_i hty
      cases h
      show W _ _ _ _ _ _ _ _ _ _ _ _ _ _ _ (F0 m pc ls (.ref (zad B E b) :: .ref (zad B E a) :: r.map (rl (zad B E))))
      rw [har]
      have hrt : isRT (zty.getD ci zt0 k) = true := by
        rcases Z.2.2.2.1 k hkN with ⟨h1, h2⟩ | ⟨h1, h2⟩ | ⟨h1, h2⟩
        · omega
        · omega
        · exact h2
      refine main (.ref (zad B E b)) (setR M.1 a k (some b), M.2) _ (isRT_n hrt _) (isRT_f hrt _) rfl (setR_len _ _ _ _) (by unfold szs; rw [setR_szs]) ⟨rs.set k (some b), setR_get hsh, mapr_set ?_ ?_⟩ (fun j hj => ⟨setR_ne hj, rfl⟩) hR.2.2.sr K
      · rw [if_pos hty.1, List.getElem?_set_self hty.2]; rfl
      · intro j hj
        rw [List.getElem?_set_ne (Ne.symm hj)]
    · cases h
theorem c_rldI (C : Ctx p R s m args meth c cc nL own nm Ts D B E cA X) (hd : decode cc pc = .ok (.iaload, 1)) (h : rld X pc (fun t _ => t == 0) L st M = some x) (hR : Rel D (zad B E) B cA M H) (hl : lok (zad B E) ls nL L) (hS : va_S (fun q => B ≤ q) s.heap H locs) (K : Kont p l e R s m args below meth c cells slots Q nL D B E cA M x) : W p l e R s m args below meth c H locs cells slots Q (F0 m pc ls (st.map (rl (zad B E)))) := by
  obtain ⟨hx, hb, hml, hown, hts, hin, hG, hnm, -, -⟩ := C
  unfold rld at h
  split at h
  case h_2 => cases h
  rename_i i a r
  split at h
  case h_2 => cases h
  rename_i t n rs hsh
  split at h
  case isFalse => cases h
  rename_i hc
  cases h
  simp only [Bool.and_eq_true, beq_iff_eq] at hc
  obtain ⟨rfl, hib⟩ := hc
  have hv := inb_in hib
  have K' := K.here hR hS hl
  show W _ _ _ _ _ _ _ _ _ _ _ _ _ _ _ (F0 m pc ls (.int i :: .ref (zad B E a) :: r.map (rl (zad B E))))
  by_cases ha : a < 1000
  · rw [shOf_lo ha] at hsh
    have he := wld_get (f := zad B E) (B := B) (cA := cA) hsh
    rw [ent_low (by omega)] at he
    have e1 : rdv X M.2 a i.toNatClampNeg = M.2 a i.toNatClampNeg := if_pos ha
    rw [e1] at K'
    rw [zad, if_pos ha]
    exact va_iald hx hb hG.1 hR.1 a 0 he rfl hv hd K'
  · rw [shOf_hi ha] at hsh
    have e1 : rdv X M.2 a i.toNatClampNeg = xva X a i.toNatClampNeg := if_neg ha
    rw [e1] at K'
    rw [zad, if_neg ha]
    obtain ⟨h1, h2, ⟨h3, h3'⟩, h4, h5, h6, -⟩ := hG
    rcases xsh_0 hsh with ⟨rfl, rfl⟩ | ⟨rfl, rfl⟩ | ⟨rfl, rfl⟩
    · refine va_sld hx hb h4 (by omega) (by omega) hS hv hd ?_
      have e2 : xva X 1000 i.toNatClampNeg = X.2.1 i.toNatClampNeg := if_pos rfl
      rw [e2] at K'
      exact K'
    · exact va_ti hx hb h5 hS hv rfl hd K'
    · exact va_ti hx hb h6 hS hv rfl hd K'
theorem c_rldB (C : Ctx p R s m args meth c cc nL own nm Ts D B E cA X) (hd : decode cc pc = .ok (.baload, 1)) (h : rld X pc (fun t _ => t == 1 || t == 2) L st M = some x) (hR : Rel D (zad B E) B cA M H) (hl : lok (zad B E) ls nL L) (hS : va_S (fun q => B ≤ q) s.heap H locs) (K : Kont p l e R s m args below meth c cells slots Q nL D B E cA M x) : W p l e R s m args below meth c H locs cells slots Q (F0 m pc ls (st.map (rl (zad B E)))) := by
  obtain ⟨hx, hb, hml, hown, hts, hin, hG, hnm, -, -⟩ := C
  unfold rld at h
  split at h
  case h_2 => cases h
  rename_i i a r
  split at h
  case h_2 => cases h
  rename_i t n rs hsh
  split at h
  case isFalse => cases h
  rename_i hc
  cases h
  simp only [Bool.and_eq_true, Bool.or_eq_true, beq_iff_eq] at hc
  obtain ⟨ht, hib⟩ := hc
  have hv := inb_in hib
  have K' := K.here hR hS hl
  show W _ _ _ _ _ _ _ _ _ _ _ _ _ _ _ (F0 m pc ls (.int i :: .ref (zad B E a) :: r.map (rl (zad B E))))
  by_cases ha : a < 1000
  · rw [shOf_lo ha] at hsh
    have he := wld_get (f := zad B E) (B := B) (cA := cA) hsh
    rw [ent_low (by omega)] at he
    have e1 : rdv X M.2 a i.toNatClampNeg = M.2 a i.toNatClampNeg := if_pos ha
    rw [e1] at K'
    rw [zad, if_pos ha]
    rcases ht with rfl | rfl
    · exact va_bald hx hb hG.1 hR.1 a 1 he rfl hv hd K'
    · exact va_zald hx hb hG.1 hR.1 a 2 he rfl hv hd K'
  · rw [shOf_hi ha] at hsh
    have e1 : rdv X M.2 a i.toNatClampNeg = xva X a i.toNatClampNeg := if_neg ha
    rw [e1] at K'
    rw [zad, if_neg ha]
    obtain ⟨rfl, j, hj, rfl, rfl⟩ := xsh_1 hsh ht
    have hE := (hG.2.2.2.2.2.2.2.2.2.2.1.1 j hj).2.2.2
    have e2 : (strs.map List.length).getD j 0 = (strs.getD j []).length := by
      rw [List.getD_eq_getElem?_getD, List.getD_eq_getElem?_getD, List.getElem?_map]
      cases strs[j]? <;> rfl
    rw [e2] at hE
    refine va_tb hx hb hE hS hv rfl hd ?_
    have e3 : xva X (1030 + j) i.toNatClampNeg = (strs.getD j []).getD i.toNatClampNeg 0 := by
      unfold xva
      rw [if_neg (by omega), if_neg (by omega), if_neg (by omega), if_neg (by omega), show 1030 + j - 1030 = j by omega]
    rw [e3] at K'
    exact K'
theorem c_rst {ok : Nat → Bool} {g : Nat → Int32 → Int32} {cond : Nat → Prop} (hok : ∀ t, ok t = true → t < 3) (hfit : ∀ t y, ok t = true → (t = 1 → fits .byte (.int (g t y)) = true) ∧ (t = 2 → fits .boolean (.int (g t y)) = true))
    (hd : ∀ (t a n : Nat) (i y : Int32) (r : List Value), ok t = true → H[B + a]? = some (vp_cell (cA t) (n, .inl (M.2 a))) → vp_in i n → (∀ H' : Heap, H'[B + a]? = some ((vp_cell (cA t) (n, .inl (M.2 a))).setSlot i.toNatClampNeg (.int (g t y))) → H'.size = H.size → (∀ q, q ≠ B + a → H'[q]? = H[q]?) → W p l e R s m args below meth c H' (locs ++ [⟨B + a, i.toNatClampNeg⟩]) cells slots Q (F0 m (pc + 1) ls r)) → W p l e R s m args below meth c H locs cells slots Q (F0 m pc ls (.int y :: .int i :: .ref (B + a) :: r)))
    (h : rst X pc ok g L st M = some x) (hR : Rel D (zad B E) B cA M H) (hl : lok (zad B E) ls nL L) (hS : va_S (fun q => B ≤ q) s.heap H locs) (K : Kont p l e R s m args below meth c cells slots Q nL D B E cA M x) : W p l e R s m args below meth c H locs cells slots Q (F0 m pc ls (st.map (rl (zad B E)))) := by
  unfold rst at h
  split at h
  case h_2 => cases h
  rename_i y i a r
  split at h
  case h_2 => cases h
  rename_i t n rs hsh
  split at h
  case isFalse => cases h
  rename_i hc
  cases h
  simp only [Bool.and_eq_true, decide_eq_true_eq] at hc
  obtain ⟨ht, hib, ha⟩ := hc
  have hv := inb_in hib
  have he := wld_get (f := zad B E) (B := B) (cA := cA) hsh
  rw [ent_low (hok t ht)] at he
  show W _ _ _ _ _ _ _ _ _ _ _ _ _ _ _ (F0 m pc ls (.int y :: .int i :: .ref (zad B E a) :: r.map (rl (zad B E))))
  rw [zad, if_pos ha]
  refine hd t a n i y _ ht (hR.1 a _ he) hv fun H1 e1 z oq => ?_
  refine K.put (M' := (M.1, up2 M.2 a i.toNatClampNeg (g t y))) rfl hR hl hS rfl rfl hsh (fun j hj => ⟨rfl, up2_ne hj⟩) ?_ z oq (hR.2.2.wr hsh (hfit t y ht).1 (hfit t y ht).2)
  rw [ent_low (hok t ht)]
  show H1[B + a]? = some (vp_cell _ _)
  rw [e1, vp_cell_i, vp_cell_i, arrV_store]
  congr 2
  funext q
  by_cases hq : q = i.toNatClampNeg
  · simp [updV, up2, hq]
  · simp [updV, up2, hq]
theorem c_ald (C : Ctx p R s m args meth c cc nL own nm Ts D B E cA X) (hd : decode cc pc = .ok (.aaload, 1)) (h : ald X pc L st M = some x) (hR : Rel D (zad B E) B cA M H) (hl : lok (zad B E) ls nL L) (hS : va_S (fun q => B ≤ q) s.heap H locs) (K : Kont p l e R s m args below meth c cells slots Q nL D B E cA M x) : W p l e R s m args below meth c H locs cells slots Q (F0 m pc ls (st.map (rl (zad B E)))) := by
  obtain ⟨hx, hb, hml, hown, hts, hin, hG, hnm, -, -⟩ := C
  unfold ald at h
  split at h
  case h_2 => cases h
  rename_i i a r
  split at h
  case h_2 => cases h
  rename_i t n rs hsh
  split at h
  case isFalse => cases h
  rename_i hc
  cases h
  simp only [Bool.and_eq_true, Bool.or_eq_true, beq_iff_eq, decide_eq_true_eq] at hc
  obtain ⟨ht, hib, ha⟩ := hc
  have hv := inb_in hib
  have K' := K.here hR hS hl
  rw [List.map_cons, ← rv_rf] at K'
  show W _ _ _ _ _ _ _ _ _ _ _ _ _ _ _ (F0 m pc ls (.int i :: .ref (zad B E a) :: r.map (rl (zad B E))))
  have he := wld_get (f := zad B E) (B := B) (cA := cA) hsh
  rw [ent_ref ht] at he
  rw [zad, if_pos ha]
  rcases ht with rfl | rfl
  · exact va_aldq hx hb hG.1 hR.1 a 3 (C := "CliffWater$Told") he rfl hv hd K'
  · have hlt : i.toNatClampNeg < n := Nat.not_le.mp fun q => hv (Or.inr q)
    refine W.aald (v := va_rf ((rs[i.toNatClampNeg]?).join.map (zad B E))) (ty := .array .int) hx hb (hR.1 a _ he) ((hG.1.2 4 _ rfl).1 n (fun j => va_rf ((rs[j]?).join.map (zad B E)))) rfl (fun q => by cases q) (by show ¬ (i < 0 ∨ (arrV _ _ _).slots.size ≤ _); rw [arrV_size]; exact hv) (by show (arrV _ _ _).slots[_]? = _; rw [arrV_read _ _ hlt]) rfl rfl hd K'
theorem c_aln (C : Ctx p R s m args meth c cc nL own nm Ts D B E cA X) (hd : decode cc pc = .ok (.arraylength, 1)) (h : aln X pc L st M = some x) (hR : Rel D (zad B E) B cA M H) (hl : lok (zad B E) ls nL L) (hS : va_S (fun q => B ≤ q) s.heap H locs) (K : Kont p l e R s m args below meth c cells slots Q nL D B E cA M x) : W p l e R s m args below meth c H locs cells slots Q (F0 m pc ls (st.map (rl (zad B E)))) := by
  obtain ⟨hx, hb, hml, hown, hts, hin, hG, hnm, -, -⟩ := C
  unfold aln at h
  split at h
  case h_2 => cases h
  rename_i a r
  split at h
  case h_2 => cases h
  rename_i t n rs hsh
  split at h
  case isFalse => cases h
  rename_i ht
  cases h
  have K' := K.here hR hS hl
  show W _ _ _ _ _ _ _ _ _ _ _ _ _ _ _ (F0 m pc ls (.ref (zad B E a) :: r.map (rl (zad B E))))
  by_cases ha : a < 1000
  · rw [shOf_lo ha] at hsh
    have he := wld_get (f := zad B E) (B := B) (cA := cA) hsh
    rw [zad, if_pos ha]
    have ht5 : t = 0 ∨ t = 1 ∨ t = 2 ∨ t = 3 ∨ t = 4 := by omega
    rcases ht5 with rfl | rfl | rfl | rfl | rfl
    · rw [ent_low (by omega)] at he; exact va_alen hx hb hG.1 hR.1 a 0 he rfl rfl hd K'
    · rw [ent_low (by omega)] at he; exact va_alen hx hb hG.1 hR.1 a 1 he rfl rfl hd K'
    · rw [ent_low (by omega)] at he; exact va_alen hx hb hG.1 hR.1 a 2 he rfl rfl hd K'
    · rw [ent_ref (by omega)] at he; exact va_alen hx hb hG.1 hR.1 a 3 he rfl rfl hd K'
    · rw [ent_ref (by omega)] at he; exact va_alen hx hb hG.1 hR.1 a 4 he rfl rfl hd K'
  · rw [shOf_hi ha] at hsh
    rw [zad, if_neg ha]
    rcases xsh_t hsh with rfl | rfl | rfl
    · obtain ⟨h1, h2, ⟨h3, h3'⟩, h4, h5, h6, -⟩ := hG
      rcases xsh_0 hsh with ⟨rfl, rfl⟩ | ⟨rfl, rfl⟩ | ⟨rfl, rfl⟩
      · exact va_slen hx hb h4 (by omega) (by omega) hS hd K'
      · exact va_tlen hx hb h5 hS rfl hd K'
      · exact va_tlen hx hb h6 hS rfl hd K'
    · obtain ⟨-, j, hj, rfl, rfl⟩ := xsh_1 hsh (Or.inl rfl)
      have hE := (hG.2.2.2.2.2.2.2.2.2.2.1.1 j hj).2.2.2
      have e2 : (strs.map List.length).getD j 0 = (strs.getD j []).length := by
        rw [List.getD_eq_getElem?_getD, List.getD_eq_getElem?_getD, List.getElem?_map]
        cases strs[j]? <;> rfl
      rw [e2] at hE
      exact va_tlen hx hb hE hS rfl hd K'
    · omega
end ZN
